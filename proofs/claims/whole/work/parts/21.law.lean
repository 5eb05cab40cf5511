def wp_L_law_b1951 (Ls : Nat) (xs : Nat → Int32) (x5 : Int32) (h : Hp) (P28 : Int32 → Hp → Prop) (Q : Int32 → Hp → Prop) : Prop := LET (x5 + 6) fun v1 => P28 v1 h
def wp_L_law_b281 (Ls : Nat) (xs : Nat → Int32) (x5 : Int32) (h : Hp) (P28 : Int32 → Hp → Prop) (Q : Int32 → Hp → Prop) : Prop := wp_L_law_b1951 Ls xs x5 h P28 Q
def wp_L_law_b337 (Ls : Nat) (xs : Nat → Int32) (x5 : Int32) (h : Hp) (P28 : Int32 → Hp → Prop) (Q : Int32 → Hp → Prop) : Prop := wp_L_law_b1951 Ls xs x5 h P28 Q
def wp_L_law_b405 (Ls : Nat) (xs : Nat → Int32) (x5 : Int32) (h : Hp) (P28 : Int32 → Hp → Prop) (Q : Int32 → Hp → Prop) : Prop := wp_L_law_b1951 Ls xs x5 h P28 Q
def wp_L_law_b461 (Ls : Nat) (xs : Nat → Int32) (x5 : Int32) (h : Hp) (P28 : Int32 → Hp → Prop) (Q : Int32 → Hp → Prop) : Prop := wp_L_law_b1951 Ls xs x5 h P28 Q
def wp_L_law_b517 (Ls : Nat) (xs : Nat → Int32) (x5 : Int32) (h : Hp) (P28 : Int32 → Hp → Prop) (Q : Int32 → Hp → Prop) : Prop := wp_L_law_b1951 Ls xs x5 h P28 Q
def wp_L_law_b592 (Ls : Nat) (xs : Nat → Int32) (x5 : Int32) (h : Hp) (P28 : Int32 → Hp → Prop) (Q : Int32 → Hp → Prop) : Prop := wp_L_law_b1951 Ls xs x5 h P28 Q
def wp_L_law_b586 (Ls : Nat) (xs : Nat → Int32) (x5 : Int32) (s0 : Int64) (s1 : Int64) (h : Hp) (P28 : Int32 → Hp → Prop) (Q : Int32 → Hp → Prop) : Prop := if s0 = s1 then (wp_L_law_b592 Ls xs x5 h P28 Q) else (Q 0 h)
def wp_L_law_b660 (Ls : Nat) (xs : Nat → Int32) (x5 : Int32) (h : Hp) (P28 : Int32 → Hp → Prop) (Q : Int32 → Hp → Prop) : Prop := wp_L_law_b1951 Ls xs x5 h P28 Q
def wp_L_law_b742 (Ls : Nat) (xs : Nat → Int32) (x5 : Int32) (h : Hp) (P28 : Int32 → Hp → Prop) (Q : Int32 → Hp → Prop) : Prop := wp_L_law_b1951 Ls xs x5 h P28 Q
def wp_L_law_b817 (Ls : Nat) (xs : Nat → Int32) (x5 : Int32) (h : Hp) (P28 : Int32 → Hp → Prop) (Q : Int32 → Hp → Prop) : Prop := wp_L_law_b1951 Ls xs x5 h P28 Q
def wp_L_law_b811 (Ls : Nat) (xs : Nat → Int32) (x5 : Int32) (s0 : Int64) (s1 : Int64) (h : Hp) (P28 : Int32 → Hp → Prop) (Q : Int32 → Hp → Prop) : Prop := if s0 = s1 then (wp_L_law_b817 Ls xs x5 h P28 Q) else (Q 0 h)
def wp_L_law_b885 (Ls : Nat) (xs : Nat → Int32) (x5 : Int32) (h : Hp) (P28 : Int32 → Hp → Prop) (Q : Int32 → Hp → Prop) : Prop := wp_L_law_b1951 Ls xs x5 h P28 Q
def wp_L_law_b979 (Ls : Nat) (xs : Nat → Int32) (x5 : Int32) (h : Hp) (P28 : Int32 → Hp → Prop) (Q : Int32 → Hp → Prop) : Prop := wp_L_law_b1951 Ls xs x5 h P28 Q
def wp_L_law_b1035 (Ls : Nat) (xs : Nat → Int32) (x5 : Int32) (h : Hp) (P28 : Int32 → Hp → Prop) (Q : Int32 → Hp → Prop) : Prop := wp_L_law_b1951 Ls xs x5 h P28 Q
def wp_L_law_b1115 (Ls : Nat) (xs : Nat → Int32) (x5 : Int32) (h : Hp) (P28 : Int32 → Hp → Prop) (Q : Int32 → Hp → Prop) : Prop := wp_L_law_b1951 Ls xs x5 h P28 Q
def wp_L_law_b1171 (Ls : Nat) (xs : Nat → Int32) (x5 : Int32) (h : Hp) (P28 : Int32 → Hp → Prop) (Q : Int32 → Hp → Prop) : Prop := wp_L_law_b1951 Ls xs x5 h P28 Q
def wp_L_law_b1239 (Ls : Nat) (xs : Nat → Int32) (x5 : Int32) (h : Hp) (P28 : Int32 → Hp → Prop) (Q : Int32 → Hp → Prop) : Prop := wp_L_law_b1951 Ls xs x5 h P28 Q
def wp_L_law_b1308 (Ls : Nat) (xs : Nat → Int32) (x5 : Int32) (h : Hp) (P28 : Int32 → Hp → Prop) (Q : Int32 → Hp → Prop) : Prop := wp_L_law_b1951 Ls xs x5 h P28 Q
def wp_L_law_b1379 (Ls : Nat) (xs : Nat → Int32) (x5 : Int32) (h : Hp) (P28 : Int32 → Hp → Prop) (Q : Int32 → Hp → Prop) : Prop := wp_L_law_b1951 Ls xs x5 h P28 Q
def wp_L_law_b1448 (Ls : Nat) (xs : Nat → Int32) (x5 : Int32) (h : Hp) (P28 : Int32 → Hp → Prop) (Q : Int32 → Hp → Prop) : Prop := wp_L_law_b1951 Ls xs x5 h P28 Q
def wp_L_law_b1504 (Ls : Nat) (xs : Nat → Int32) (x5 : Int32) (h : Hp) (P28 : Int32 → Hp → Prop) (Q : Int32 → Hp → Prop) : Prop := wp_L_law_b1951 Ls xs x5 h P28 Q
def wp_L_law_b1572 (Ls : Nat) (xs : Nat → Int32) (x5 : Int32) (h : Hp) (P28 : Int32 → Hp → Prop) (Q : Int32 → Hp → Prop) : Prop := wp_L_law_b1951 Ls xs x5 h P28 Q
def wp_L_law_b1647 (Ls : Nat) (xs : Nat → Int32) (x5 : Int32) (h : Hp) (P28 : Int32 → Hp → Prop) (Q : Int32 → Hp → Prop) : Prop := wp_L_law_b1951 Ls xs x5 h P28 Q
def wp_L_law_b1641 (Ls : Nat) (xs : Nat → Int32) (x5 : Int32) (s0 : Int64) (s1 : Int64) (h : Hp) (P28 : Int32 → Hp → Prop) (Q : Int32 → Hp → Prop) : Prop := if s0 = s1 then (wp_L_law_b1647 Ls xs x5 h P28 Q) else (Q 0 h)
def wp_L_law_b1722 (Ls : Nat) (xs : Nat → Int32) (x5 : Int32) (h : Hp) (P28 : Int32 → Hp → Prop) (Q : Int32 → Hp → Prop) : Prop := wp_L_law_b1951 Ls xs x5 h P28 Q
def wp_L_law_b1716 (Ls : Nat) (xs : Nat → Int32) (x5 : Int32) (s0 : Int64) (s1 : Int64) (h : Hp) (P28 : Int32 → Hp → Prop) (Q : Int32 → Hp → Prop) : Prop := if s0 = s1 then (wp_L_law_b1722 Ls xs x5 h P28 Q) else (Q 0 h)
def wp_L_law_b1778 (Ls : Nat) (xs : Nat → Int32) (x5 : Int32) (h : Hp) (P28 : Int32 → Hp → Prop) (Q : Int32 → Hp → Prop) : Prop := wp_L_law_b1951 Ls xs x5 h P28 Q
def wp_L_law_b1858 (Ls : Nat) (xs : Nat → Int32) (x5 : Int32) (h : Hp) (P28 : Int32 → Hp → Prop) (Q : Int32 → Hp → Prop) : Prop := wp_L_law_b1951 Ls xs x5 h P28 Q
def wp_L_law_b1935 (Ls : Nat) (xs : Nat → Int32) (x5 : Int32) (h : Hp) (P28 : Int32 → Hp → Prop) (Q : Int32 → Hp → Prop) : Prop := wp_L_law_b1951 Ls xs x5 h P28 Q
def wp_L_law_b28F (Ls : Nat) (xs : Nat → Int32)    (Q : Int32 → Hp → Prop) (P28 : Int32 → Hp → Prop) (x5 : Int32) (h : Hp) : Prop := if ((nI Ls) - 6) < x5 then (Q 1 h) else (vp_in x5 Ls ∧ if ((xs x5.toNatClampNeg) &&& 31) = 0 then (vp_in (x5 + 1) Ls ∧ vp_in (x5 + 2) Ls ∧ vp_in (x5 + 3) Ls ∧ vp_in (x5 + 4) Ls ∧ vp_in (x5 + 5) Ls ∧ wp_L_mail (xs (x5 + 1).toNatClampNeg) (xs (x5 + 2).toNatClampNeg) (xs (x5 + 3).toNatClampNeg) (xs (x5 + 4).toNatClampNeg) (xs (x5 + 5).toNatClampNeg) h (fun r9 h10 => wp_X11_mail (xs (x5 + 1).toNatClampNeg) (xs (x5 + 2).toNatClampNeg) (xs (x5 + 3).toNatClampNeg) (xs (x5 + 4).toNatClampNeg) (xs (x5 + 5).toNatClampNeg) h10 (fun r11 h12 => wp_X11_thrown h12 (fun r13 => if r13 = r9 then (if r9 = 0 then (vp_in 0 1 ∧ if (gJ h12 75 0 (0 : Int32).toNatClampNeg) = r11.toInt64 then (wp_L_law_b281 Ls xs x5 h12 P28 Q) else (Q 0 h12)) else (wp_L_law_b281 Ls xs x5 h12 P28 Q)) else (Q 0 h12))))) else if ((xs x5.toNatClampNeg) &&& 31) = 1 then (vp_in (x5 + 1) Ls ∧ wp_L_pass (xs (x5 + 1).toNatClampNeg) h (fun r20 h21 => wp_X11_pass (xs (x5 + 1).toNatClampNeg) h21 (fun r22 h23 => wp_X11_thrown h23 (fun r24 => if r24 = r20 then (if r20 = 0 then (vp_in 0 1 ∧ if (gJ h23 75 0 (0 : Int32).toNatClampNeg) = r22.toInt64 then (wp_L_law_b337 Ls xs x5 h23 P28 Q) else (Q 0 h23)) else (wp_L_law_b337 Ls xs x5 h23 P28 Q)) else (Q 0 h23))))) else if ((xs x5.toNatClampNeg) &&& 31) = 2 then (vp_in (x5 + 1) Ls ∧ vp_in (x5 + 2) Ls ∧ wp_L_setQuota (xs (x5 + 1).toNatClampNeg) (xs (x5 + 2).toNatClampNeg) h (fun r32 h33 => wp_X11_setQuota (xs (x5 + 1).toNatClampNeg) (xs (x5 + 2).toNatClampNeg) h33 (fun r34 h35 => wp_X11_thrown h35 (fun r36 => if r36 = r32 then (if r32 = 0 then (vp_in 0 1 ∧ if (gJ h35 75 0 (0 : Int32).toNatClampNeg) = r34.toInt64 then (wp_L_law_b405 Ls xs x5 h35 P28 Q) else (Q 0 h35)) else (wp_L_law_b405 Ls xs x5 h35 P28 Q)) else (Q 0 h35))))) else if ((xs x5.toNatClampNeg) &&& 31) = 3 then (vp_in (x5 + 1) Ls ∧ wp_L_inBox (xs (x5 + 1).toNatClampNeg) h (fun r43 h44 => wp_X11_inBox (xs (x5 + 1).toNatClampNeg) h44 (fun r45 h46 => wp_X11_thrown h46 (fun r47 => if r47 = r43 then (if r43 = 0 then (vp_in 0 1 ∧ if (gJ h46 75 0 (0 : Int32).toNatClampNeg) = r45.toInt64 then (wp_L_law_b461 Ls xs x5 h46 P28 Q) else (Q 0 h46)) else (wp_L_law_b461 Ls xs x5 h46 P28 Q)) else (Q 0 h46))))) else if ((xs x5.toNatClampNeg) &&& 31) = 4 then (vp_in (x5 + 1) Ls ∧ wp_L_boxOf (xs (x5 + 1).toNatClampNeg) h (fun r54 h55 => wp_X11_boxOf (xs (x5 + 1).toNatClampNeg) h55 (fun r56 h57 => wp_X11_thrown h57 (fun r58 => if r58 = r54 then (if r54 = 0 then (vp_in 0 1 ∧ if (gJ h57 75 0 (0 : Int32).toNatClampNeg) = r56.toInt64 then (wp_L_law_b517 Ls xs x5 h57 P28 Q) else (Q 0 h57)) else (wp_L_law_b517 Ls xs x5 h57 P28 Q)) else (Q 0 h57))))) else if ((xs x5.toNatClampNeg) &&& 31) = 5 then (vp_in (x5 + 1) Ls ∧ vp_in (x5 + 2) Ls ∧ wp_L_hasFlag (xs (x5 + 1).toNatClampNeg) (xs (x5 + 2).toNatClampNeg) h (fun r66 h67 => wp_X11_hasFlag (xs (x5 + 1).toNatClampNeg) (xs (x5 + 2).toNatClampNeg) h67 (fun r68 h69 => wp_X11_thrown h69 (fun r70 => if r70 = r66 then (if r66 = 0 then (vp_in 0 1 ∧ if r68 = 0 then (wp_L_law_b586 Ls xs x5 (gJ h69 75 0 (0 : Int32).toNatClampNeg) 0 h69 P28 Q) else (wp_L_law_b586 Ls xs x5 (gJ h69 75 0 (0 : Int32).toNatClampNeg) 1 h69 P28 Q)) else (wp_L_law_b592 Ls xs x5 h69 P28 Q)) else (Q 0 h69))))) else if ((xs x5.toNatClampNeg) &&& 31) = 6 then (vp_in (x5 + 1) Ls ∧ vp_in (x5 + 2) Ls ∧ wp_L_move (xs (x5 + 1).toNatClampNeg) (xs (x5 + 2).toNatClampNeg) h (fun r78 h79 => wp_X11_move (xs (x5 + 1).toNatClampNeg) (xs (x5 + 2).toNatClampNeg) h79 (fun r80 h81 => wp_X11_thrown h81 (fun r82 => if r82 = r78 then (if r78 = 0 then (vp_in 0 1 ∧ if (gJ h81 75 0 (0 : Int32).toNatClampNeg) = r80.toInt64 then (wp_L_law_b660 Ls xs x5 h81 P28 Q) else (Q 0 h81)) else (wp_L_law_b660 Ls xs x5 h81 P28 Q)) else (Q 0 h81))))) else if ((xs x5.toNatClampNeg) &&& 31) = 7 then (vp_in (x5 + 1) Ls ∧ vp_in (x5 + 2) Ls ∧ vp_in (x5 + 3) Ls ∧ wp_L_test (((xs (x5 + 1).toNatClampNeg).toUInt32 % 65536).toInt32) (xs (x5 + 2).toNatClampNeg) (xs (x5 + 3).toNatClampNeg) h (fun r91 h92 => wp_X11_test (((xs (x5 + 1).toNatClampNeg).toUInt32 % 65536).toInt32) (xs (x5 + 2).toNatClampNeg) (xs (x5 + 3).toNatClampNeg) h92 (fun r93 h94 => wp_X11_thrown h94 (fun r95 => if r95 = r91 then (if r91 = 0 then (vp_in 0 1 ∧ if (gJ h94 75 0 (0 : Int32).toNatClampNeg) = r93.toInt64 then (wp_L_law_b742 Ls xs x5 h94 P28 Q) else (Q 0 h94)) else (wp_L_law_b742 Ls xs x5 h94 P28 Q)) else (Q 0 h94))))) else if ((xs x5.toNatClampNeg) &&& 31) = 8 then (vp_in (x5 + 1) Ls ∧ vp_in (x5 + 2) Ls ∧ wp_L_holds (xs (x5 + 1).toNatClampNeg) (xs (x5 + 2).toNatClampNeg) h (fun r103 h104 => wp_X11_holds (xs (x5 + 1).toNatClampNeg) (xs (x5 + 2).toNatClampNeg) h104 (fun r105 h106 => wp_X11_thrown h106 (fun r107 => if r107 = r103 then (if r103 = 0 then (vp_in 0 1 ∧ if r105 = 0 then (wp_L_law_b811 Ls xs x5 (gJ h106 75 0 (0 : Int32).toNatClampNeg) 0 h106 P28 Q) else (wp_L_law_b811 Ls xs x5 (gJ h106 75 0 (0 : Int32).toNatClampNeg) 1 h106 P28 Q)) else (wp_L_law_b817 Ls xs x5 h106 P28 Q)) else (Q 0 h106))))) else if ((xs x5.toNatClampNeg) &&& 31) = 9 then (vp_in (x5 + 1) Ls ∧ vp_in (x5 + 2) Ls ∧ wp_L_rule (xs (x5 + 1).toNatClampNeg) (xs (x5 + 2).toNatClampNeg) h (fun r115 h116 => wp_X11_rule (xs (x5 + 1).toNatClampNeg) (xs (x5 + 2).toNatClampNeg) h116 (fun r117 h118 => wp_X11_thrown h118 (fun r119 => if r119 = r115 then (if r115 = 0 then (vp_in 0 1 ∧ if (gJ h118 75 0 (0 : Int32).toNatClampNeg) = r117.toInt64 then (wp_L_law_b885 Ls xs x5 h118 P28 Q) else (Q 0 h118)) else (wp_L_law_b885 Ls xs x5 h118 P28 Q)) else (Q 0 h118))))) else if ((xs x5.toNatClampNeg) &&& 31) = 10 then (vp_in (x5 + 1) Ls ∧ vp_in (x5 + 2) Ls ∧ vp_in (x5 + 3) Ls ∧ vp_in (x5 + 4) Ls ∧ wp_L_action (xs (x5 + 1).toNatClampNeg) (xs (x5 + 2).toNatClampNeg) (((xs (x5 + 3).toNatClampNeg).toUInt32 % 65536).toInt32) (xs (x5 + 4).toNatClampNeg) h (fun r129 h130 => wp_X11_action (xs (x5 + 1).toNatClampNeg) (xs (x5 + 2).toNatClampNeg) (((xs (x5 + 3).toNatClampNeg).toUInt32 % 65536).toInt32) (xs (x5 + 4).toNatClampNeg) h130 (fun r131 h132 => wp_X11_thrown h132 (fun r133 => if r133 = r129 then (if r129 = 0 then (vp_in 0 1 ∧ if (gJ h132 75 0 (0 : Int32).toNatClampNeg) = r131.toInt64 then (wp_L_law_b979 Ls xs x5 h132 P28 Q) else (Q 0 h132)) else (wp_L_law_b979 Ls xs x5 h132 P28 Q)) else (Q 0 h132))))) else if ((xs x5.toNatClampNeg) &&& 31) = 11 then (vp_in (x5 + 1) Ls ∧ wp_L_clear (xs (x5 + 1).toNatClampNeg) h (fun r140 h141 => wp_X11_clear (xs (x5 + 1).toNatClampNeg) h141 (fun r142 h143 => wp_X11_thrown h143 (fun r144 => if r144 = r140 then (if r140 = 0 then (vp_in 0 1 ∧ if (gJ h143 75 0 (0 : Int32).toNatClampNeg) = r142.toInt64 then (wp_L_law_b1035 Ls xs x5 h143 P28 Q) else (Q 0 h143)) else (wp_L_law_b1035 Ls xs x5 h143 P28 Q)) else (Q 0 h143))))) else if ((xs x5.toNatClampNeg) &&& 31) = 12 then (vp_in (x5 + 1) Ls ∧ vp_in (x5 + 2) Ls ∧ vp_in (x5 + 3) Ls ∧ wp_L_reorder (xs (x5 + 1).toNatClampNeg) (xs (x5 + 2).toNatClampNeg) (xs (x5 + 3).toNatClampNeg) h (fun r153 h154 => wp_X11_reorder (xs (x5 + 1).toNatClampNeg) (xs (x5 + 2).toNatClampNeg) (xs (x5 + 3).toNatClampNeg) h154 (fun r155 h156 => wp_X11_thrown h156 (fun r157 => if r157 = r153 then (if r153 = 0 then (vp_in 0 1 ∧ if (gJ h156 75 0 (0 : Int32).toNatClampNeg) = r155.toInt64 then (wp_L_law_b1115 Ls xs x5 h156 P28 Q) else (Q 0 h156)) else (wp_L_law_b1115 Ls xs x5 h156 P28 Q)) else (Q 0 h156))))) else if ((xs x5.toNatClampNeg) &&& 31) = 13 then (vp_in (x5 + 1) Ls ∧ wp_L_deliver (xs (x5 + 1).toNatClampNeg) h (fun r164 h165 => wp_X11_deliver (xs (x5 + 1).toNatClampNeg) h165 (fun r166 h167 => wp_X11_thrown h167 (fun r168 => if r168 = r164 then (if r164 = 0 then (vp_in 0 1 ∧ if (gJ h167 75 0 (0 : Int32).toNatClampNeg) = r166.toInt64 then (wp_L_law_b1171 Ls xs x5 h167 P28 Q) else (Q 0 h167)) else (wp_L_law_b1171 Ls xs x5 h167 P28 Q)) else (Q 0 h167))))) else if ((xs x5.toNatClampNeg) &&& 31) = 14 then (vp_in (x5 + 1) Ls ∧ vp_in (x5 + 2) Ls ∧ wp_L_attempt (xs (x5 + 1).toNatClampNeg) (xs (x5 + 2).toNatClampNeg) h (fun r176 h177 => wp_X11_attempt (xs (x5 + 1).toNatClampNeg) (xs (x5 + 2).toNatClampNeg) h177 (fun r178 h179 => wp_X11_thrown h179 (fun r180 => if r180 = r176 then (if r176 = 0 then (vp_in 0 1 ∧ if (gJ h179 75 0 (0 : Int32).toNatClampNeg) = r178.toInt64 then (wp_L_law_b1239 Ls xs x5 h179 P28 Q) else (Q 0 h179)) else (wp_L_law_b1239 Ls xs x5 h179 P28 Q)) else (Q 0 h179))))) else if ((xs x5.toNatClampNeg) &&& 31) = 15 then (wp_X10_done h (fun r186 => wp_X11_done h (fun r187 h188 => if r186 = r187 then (wp_L_law_b1951 Ls xs x5 h188 P28 Q) else (Q 0 h188)))) else if ((xs x5.toNatClampNeg) &&& 31) = 16 then (vp_in (x5 + 1) Ls ∧ wp_L_doneAt (xs (x5 + 1).toNatClampNeg) h (fun r192 h193 => wp_X11_doneAt (xs (x5 + 1).toNatClampNeg) h193 (fun r194 h195 => wp_X11_thrown h195 (fun r196 => if r196 = r192 then (if r192 = 0 then (vp_in 0 1 ∧ if (gJ h195 75 0 (0 : Int32).toNatClampNeg) = r194.toInt64 then (wp_L_law_b1308 Ls xs x5 h195 P28 Q) else (Q 0 h195)) else (wp_L_law_b1308 Ls xs x5 h195 P28 Q)) else (Q 0 h195))))) else if ((xs x5.toNatClampNeg) &&& 31) = 17 then (wp_X10_clashes h (fun r202 => wp_X11_clashes h (fun r203 h204 => if r202 = r203 then (wp_L_law_b1951 Ls xs x5 h204 P28 Q) else (Q 0 h204)))) else if ((xs x5.toNatClampNeg) &&& 31) = 18 then (vp_in (x5 + 1) Ls ∧ wp_L_faults (((xs (x5 + 1).toNatClampNeg).toUInt32 % 65536).toInt32) h (fun r208 h209 => wp_X11_faults (((xs (x5 + 1).toNatClampNeg).toUInt32 % 65536).toInt32) h209 (fun r210 h211 => wp_X11_thrown h211 (fun r212 => if r212 = r208 then (if r208 = 0 then (vp_in 0 1 ∧ if (gJ h211 75 0 (0 : Int32).toNatClampNeg) = r210.toInt64 then (wp_L_law_b1379 Ls xs x5 h211 P28 Q) else (Q 0 h211)) else (wp_L_law_b1379 Ls xs x5 h211 P28 Q)) else (Q 0 h211))))) else if ((xs x5.toNatClampNeg) &&& 31) = 19 then (wp_X10_flags h (fun r218 => wp_X11_flags h (fun r219 h220 => if r218 = r219 then (wp_L_law_b1951 Ls xs x5 h220 P28 Q) else (Q 0 h220)))) else if ((xs x5.toNatClampNeg) &&& 31) = 20 then (vp_in (x5 + 1) Ls ∧ wp_L_replies (xs (x5 + 1).toNatClampNeg) h (fun r224 h225 => wp_X11_replies (xs (x5 + 1).toNatClampNeg) h225 (fun r226 h227 => wp_X11_thrown h227 (fun r228 => if r228 = r224 then (if r224 = 0 then (vp_in 0 1 ∧ if (gJ h227 75 0 (0 : Int32).toNatClampNeg) = r226.toInt64 then (wp_L_law_b1448 Ls xs x5 h227 P28 Q) else (Q 0 h227)) else (wp_L_law_b1448 Ls xs x5 h227 P28 Q)) else (Q 0 h227))))) else if ((xs x5.toNatClampNeg) &&& 31) = 21 then (vp_in (x5 + 1) Ls ∧ wp_L_forwarded (xs (x5 + 1).toNatClampNeg) h (fun r235 h236 => wp_X11_forwarded (xs (x5 + 1).toNatClampNeg) h236 (fun r237 h238 => wp_X11_thrown h238 (fun r239 => if r239 = r235 then (if r235 = 0 then (vp_in 0 1 ∧ if (gJ h238 75 0 (0 : Int32).toNatClampNeg) = r237.toInt64 then (wp_L_law_b1504 Ls xs x5 h238 P28 Q) else (Q 0 h238)) else (wp_L_law_b1504 Ls xs x5 h238 P28 Q)) else (Q 0 h238))))) else if ((xs x5.toNatClampNeg) &&& 31) = 22 then (vp_in (x5 + 1) Ls ∧ vp_in (x5 + 2) Ls ∧ wp_L_difference (xs (x5 + 1).toNatClampNeg) (xs (x5 + 2).toNatClampNeg) h (fun r247 h248 => wp_X11_difference (xs (x5 + 1).toNatClampNeg) (xs (x5 + 2).toNatClampNeg) h248 (fun r249 h250 => wp_X11_thrown h250 (fun r251 => if r251 = r247 then (if r247 = 0 then (vp_in 0 1 ∧ if (gJ h250 75 0 (0 : Int32).toNatClampNeg) = r249.toInt64 then (wp_L_law_b1572 Ls xs x5 h250 P28 Q) else (Q 0 h250)) else (wp_L_law_b1572 Ls xs x5 h250 P28 Q)) else (Q 0 h250))))) else if ((xs x5.toNatClampNeg) &&& 31) = 23 then (vp_in (x5 + 1) Ls ∧ vp_in (x5 + 2) Ls ∧ wp_L_isShadowed (xs (x5 + 1).toNatClampNeg) (xs (x5 + 2).toNatClampNeg) h (fun r259 h260 => wp_X11_isShadowed (xs (x5 + 1).toNatClampNeg) (xs (x5 + 2).toNatClampNeg) h260 (fun r261 h262 => wp_X11_thrown h262 (fun r263 => if r263 = r259 then (if r259 = 0 then (vp_in 0 1 ∧ if r261 = 0 then (wp_L_law_b1641 Ls xs x5 (gJ h262 75 0 (0 : Int32).toNatClampNeg) 0 h262 P28 Q) else (wp_L_law_b1641 Ls xs x5 (gJ h262 75 0 (0 : Int32).toNatClampNeg) 1 h262 P28 Q)) else (wp_L_law_b1647 Ls xs x5 h262 P28 Q)) else (Q 0 h262))))) else if ((xs x5.toNatClampNeg) &&& 31) = 24 then (vp_in (x5 + 1) Ls ∧ vp_in (x5 + 2) Ls ∧ wp_L_areSame (xs (x5 + 1).toNatClampNeg) (xs (x5 + 2).toNatClampNeg) h (fun r271 h272 => wp_X11_areSame (xs (x5 + 1).toNatClampNeg) (xs (x5 + 2).toNatClampNeg) h272 (fun r273 h274 => wp_X11_thrown h274 (fun r275 => if r275 = r271 then (if r271 = 0 then (vp_in 0 1 ∧ if r273 = 0 then (wp_L_law_b1716 Ls xs x5 (gJ h274 75 0 (0 : Int32).toNatClampNeg) 0 h274 P28 Q) else (wp_L_law_b1716 Ls xs x5 (gJ h274 75 0 (0 : Int32).toNatClampNeg) 1 h274 P28 Q)) else (wp_L_law_b1722 Ls xs x5 h274 P28 Q)) else (Q 0 h274))))) else if ((xs x5.toNatClampNeg) &&& 31) = 25 then (vp_in (x5 + 1) Ls ∧ wp_L_learn (xs (x5 + 1).toNatClampNeg) h (fun r282 h283 => wp_X11_learn (xs (x5 + 1).toNatClampNeg) h283 (fun r284 h285 => wp_X11_thrown h285 (fun r286 => if r286 = r282 then (if r282 = 0 then (vp_in 0 1 ∧ if (gJ h285 75 0 (0 : Int32).toNatClampNeg) = r284.toInt64 then (wp_L_law_b1778 Ls xs x5 h285 P28 Q) else (Q 0 h285)) else (wp_L_law_b1778 Ls xs x5 h285 P28 Q)) else (Q 0 h285))))) else if ((xs x5.toNatClampNeg) &&& 31) = 26 then (wp_X10_sum h (fun r292 => wp_X11_sum h (fun r293 h294 => if r292 = r293 then (wp_L_law_b1951 Ls xs x5 h294 P28 Q) else (Q 0 h294)))) else if ((xs x5.toNatClampNeg) &&& 31) = 27 then (wp_L_goneShare h (fun r297 h298 => wp_X11_goneShare h298 (fun r299 h300 => wp_X11_thrown h300 (fun r301 => if r301 = r297 then (if r297 = 0 then (vp_in 0 1 ∧ vf_n64 (FP.f2d r299) ∧ if (Op.cmpValue (FP.dcmp (gD h300 76 0 (0 : Int32).toNatClampNeg) (FP.f2d r299)) .l) = 0 then (wp_L_law_b1858 Ls xs x5 h300 P28 Q) else (if (Op.cmpValue (FP.dcmp (gD h300 76 0 (0 : Int32).toNatClampNeg) (gD h300 76 0 (0 : Int32).toNatClampNeg)) .l) = 0 then (Q 0 h300) else (if (Op.cmpValue (FP.fcmp r299 r299) .l) = 0 then (Q 0 h300) else (wp_L_law_b1858 Ls xs x5 h300 P28 Q)))) else (wp_L_law_b1858 Ls xs x5 h300 P28 Q)) else (Q 0 h300))))) else if ((xs x5.toNatClampNeg) &&& 31) = 28 then (vp_in (x5 + 1) Ls ∧ wp_L_meanSize (xs (x5 + 1).toNatClampNeg) h (fun r311 h312 => wp_X11_meanSize (xs (x5 + 1).toNatClampNeg) h312 (fun r313 h314 => wp_X11_thrown h314 (fun r315 => if r315 = r311 then (if r311 = 0 then (vp_in 0 1 ∧ if (Op.cmpValue (FP.dcmp (gD h314 76 0 (0 : Int32).toNatClampNeg) r313) .l) = 0 then (wp_L_law_b1935 Ls xs x5 h314 P28 Q) else (if (Op.cmpValue (FP.dcmp (gD h314 76 0 (0 : Int32).toNatClampNeg) (gD h314 76 0 (0 : Int32).toNatClampNeg)) .l) = 0 then (Q 0 h314) else (if (Op.cmpValue (FP.dcmp r313 r313) .l) = 0 then (Q 0 h314) else (wp_L_law_b1935 Ls xs x5 h314 P28 Q)))) else (wp_L_law_b1935 Ls xs x5 h314 P28 Q)) else (Q 0 h314))))) else if ((xs x5.toNatClampNeg) &&& 31) = 29 then (wp_X10_isTrue h (fun r323 h324 => wp_X11_isTrue h324 (fun r325 h326 => if r323 = r325 then (wp_L_law_b1951 Ls xs x5 h326 P28 Q) else (Q 0 h326)))) else (wp_L_law_b1951 Ls xs x5 h P28 Q))
def wp_L_law_b28 (Ls : Nat) (xs : Nat → Int32) (x5 : Int32) (h : Hp)  (Q : Int32 → Hp → Prop) : Prop := LFP2 (wp_L_law_b28F Ls xs    Q) x5 h
set_option maxRecDepth 20000 in
theorem t_L_law_b1951 {X : Ctx} (h : Hp) (x5 : Int32)  (Ls : Nat) (xs : Nat → Int32) (bs : Nat) (hSX : SX X bs Ls xs) (k z : Nat) (hkb : k + 4 ≤ 300000) (hzb : z + 24 ≤ 3000000) (hc : ¬ ((nI Ls - 6) < x5)) (E : EE X cL_law RL 9 1024 50000 300000 3000000) {Q : Int32 → Hp → Prop} (hE : ENDi X cL_law .boolean (fun r u => isB r ∧ Q r u) NT 300000 3000000) (P28 : Int32 → Hp → Prop) (hP28 : ∀ (y5 : Int32) (u : Hp), y5 = x5 + 6 → ¬ ((nI Ls - 6) < x5) → P28 y5 u → GG X (k + 4) (z + 24) NT u [some (.ref bs), some (rf X 10 0), some (rf X 11 0), some (rf X 75 0), some (rf X 76 0), some (.int y5), none, none, none] 28 []) (hw : wp_L_law_b1951 Ls xs x5 h P28 Q) : GG X (k + 4) (z + 24) NT h [some (.ref bs), some (rf X 10 0), some (rf X 11 0), some (rf X 75 0), some (rf X 76 0), some (.int x5), none, none, none] 1951 [] := by
  unfold wp_L_law_b1951 at hw
  obtain ⟨v1, hv1⟩ : ∃ y : Int32, y = x5 + 6 := ⟨_, rfl⟩
  have hw := hw v1 hv1
  refine r_iinc E x5 v1 [some (.ref bs), some (rf X 10 0), some (rf X 11 0), some (rf X 75 0), some (rf X 76 0), some (.int v1), none, none, none] rfl (by rw [hv1]; rfl) (Nat.le_of_ble_eq_true rfl) rfl dL_law_1951 ?_
  refine r_goto E 28 (by decide) dL_law_1954 ?_
  exact GG_wid (by omega) (by omega) (GG_weak [true, true, true, true, true, true, false, false, false] rfl (hP28 _ _ hv1 hc hw))
set_option maxRecDepth 20000 in
theorem t_L_law_b281 {X : Ctx} (h : Hp) (x5 : Int32)  (Ls : Nat) (xs : Nat → Int32) (bs : Nat) (hSX : SX X bs Ls xs) (k z : Nat) (hkb : k + 4 ≤ 300000) (hzb : z + 24 ≤ 3000000) (hc : ¬ ((nI Ls - 6) < x5)) (E : EE X cL_law RL 9 1024 50000 300000 3000000) {Q : Int32 → Hp → Prop} (hE : ENDi X cL_law .boolean (fun r u => isB r ∧ Q r u) NT 300000 3000000) (P28 : Int32 → Hp → Prop) (hP28 : ∀ (y5 : Int32) (u : Hp), y5 = x5 + 6 → ¬ ((nI Ls - 6) < x5) → P28 y5 u → GG X (k + 4) (z + 24) NT u [some (.ref bs), some (rf X 10 0), some (rf X 11 0), some (rf X 75 0), some (rf X 76 0), some (.int y5), none, none, none] 28 []) (hw : wp_L_law_b281 Ls xs x5 h P28 Q) : GG X (k + 1) (z + 6) NT h [some (.ref bs), some (rf X 10 0), some (rf X 11 0), some (rf X 75 0), some (rf X 76 0), some (.int x5), none, none, none] 281 [] := by
  unfold wp_L_law_b281 at hw
  refine r_goto E 1951 (by decide) dL_law_281 ?_
  exact GG_wid (by omega) (by omega) (GG_weak [true, true, true, true, true, true, false, false, false] rfl (t_L_law_b1951 h x5 Ls xs bs hSX k z hkb hzb hc E hE P28 hP28  hw))
set_option maxRecDepth 20000 in
theorem t_L_law_b337 {X : Ctx} (h : Hp) (x5 : Int32)  (Ls : Nat) (xs : Nat → Int32) (bs : Nat) (hSX : SX X bs Ls xs) (k z : Nat) (hkb : k + 4 ≤ 300000) (hzb : z + 24 ≤ 3000000) (hc : ¬ ((nI Ls - 6) < x5)) (E : EE X cL_law RL 9 1024 50000 300000 3000000) {Q : Int32 → Hp → Prop} (hE : ENDi X cL_law .boolean (fun r u => isB r ∧ Q r u) NT 300000 3000000) (P28 : Int32 → Hp → Prop) (hP28 : ∀ (y5 : Int32) (u : Hp), y5 = x5 + 6 → ¬ ((nI Ls - 6) < x5) → P28 y5 u → GG X (k + 4) (z + 24) NT u [some (.ref bs), some (rf X 10 0), some (rf X 11 0), some (rf X 75 0), some (rf X 76 0), some (.int y5), none, none, none] 28 []) (hw : wp_L_law_b337 Ls xs x5 h P28 Q) : GG X (k + 1) (z + 6) NT h [some (.ref bs), some (rf X 10 0), some (rf X 11 0), some (rf X 75 0), some (rf X 76 0), some (.int x5), none, none, none] 337 [] := by
  unfold wp_L_law_b337 at hw
  refine r_goto E 1951 (by decide) dL_law_337 ?_
  exact GG_wid (by omega) (by omega) (GG_weak [true, true, true, true, true, true, false, false, false] rfl (t_L_law_b1951 h x5 Ls xs bs hSX k z hkb hzb hc E hE P28 hP28  hw))
set_option maxRecDepth 20000 in
theorem t_L_law_b405 {X : Ctx} (h : Hp) (x5 : Int32)  (Ls : Nat) (xs : Nat → Int32) (bs : Nat) (hSX : SX X bs Ls xs) (k z : Nat) (hkb : k + 4 ≤ 300000) (hzb : z + 24 ≤ 3000000) (hc : ¬ ((nI Ls - 6) < x5)) (E : EE X cL_law RL 9 1024 50000 300000 3000000) {Q : Int32 → Hp → Prop} (hE : ENDi X cL_law .boolean (fun r u => isB r ∧ Q r u) NT 300000 3000000) (P28 : Int32 → Hp → Prop) (hP28 : ∀ (y5 : Int32) (u : Hp), y5 = x5 + 6 → ¬ ((nI Ls - 6) < x5) → P28 y5 u → GG X (k + 4) (z + 24) NT u [some (.ref bs), some (rf X 10 0), some (rf X 11 0), some (rf X 75 0), some (rf X 76 0), some (.int y5), none, none, none] 28 []) (hw : wp_L_law_b405 Ls xs x5 h P28 Q) : GG X (k + 1) (z + 6) NT h [some (.ref bs), some (rf X 10 0), some (rf X 11 0), some (rf X 75 0), some (rf X 76 0), some (.int x5), none, none, none] 405 [] := by
  unfold wp_L_law_b405 at hw
  refine r_goto E 1951 (by decide) dL_law_405 ?_
  exact GG_wid (by omega) (by omega) (GG_weak [true, true, true, true, true, true, false, false, false] rfl (t_L_law_b1951 h x5 Ls xs bs hSX k z hkb hzb hc E hE P28 hP28  hw))
set_option maxRecDepth 20000 in
theorem t_L_law_b461 {X : Ctx} (h : Hp) (x5 : Int32)  (Ls : Nat) (xs : Nat → Int32) (bs : Nat) (hSX : SX X bs Ls xs) (k z : Nat) (hkb : k + 4 ≤ 300000) (hzb : z + 24 ≤ 3000000) (hc : ¬ ((nI Ls - 6) < x5)) (E : EE X cL_law RL 9 1024 50000 300000 3000000) {Q : Int32 → Hp → Prop} (hE : ENDi X cL_law .boolean (fun r u => isB r ∧ Q r u) NT 300000 3000000) (P28 : Int32 → Hp → Prop) (hP28 : ∀ (y5 : Int32) (u : Hp), y5 = x5 + 6 → ¬ ((nI Ls - 6) < x5) → P28 y5 u → GG X (k + 4) (z + 24) NT u [some (.ref bs), some (rf X 10 0), some (rf X 11 0), some (rf X 75 0), some (rf X 76 0), some (.int y5), none, none, none] 28 []) (hw : wp_L_law_b461 Ls xs x5 h P28 Q) : GG X (k + 1) (z + 6) NT h [some (.ref bs), some (rf X 10 0), some (rf X 11 0), some (rf X 75 0), some (rf X 76 0), some (.int x5), none, none, none] 461 [] := by
  unfold wp_L_law_b461 at hw
  refine r_goto E 1951 (by decide) dL_law_461 ?_
  exact GG_wid (by omega) (by omega) (GG_weak [true, true, true, true, true, true, false, false, false] rfl (t_L_law_b1951 h x5 Ls xs bs hSX k z hkb hzb hc E hE P28 hP28  hw))
set_option maxRecDepth 20000 in
theorem t_L_law_b517 {X : Ctx} (h : Hp) (x5 : Int32)  (Ls : Nat) (xs : Nat → Int32) (bs : Nat) (hSX : SX X bs Ls xs) (k z : Nat) (hkb : k + 4 ≤ 300000) (hzb : z + 24 ≤ 3000000) (hc : ¬ ((nI Ls - 6) < x5)) (E : EE X cL_law RL 9 1024 50000 300000 3000000) {Q : Int32 → Hp → Prop} (hE : ENDi X cL_law .boolean (fun r u => isB r ∧ Q r u) NT 300000 3000000) (P28 : Int32 → Hp → Prop) (hP28 : ∀ (y5 : Int32) (u : Hp), y5 = x5 + 6 → ¬ ((nI Ls - 6) < x5) → P28 y5 u → GG X (k + 4) (z + 24) NT u [some (.ref bs), some (rf X 10 0), some (rf X 11 0), some (rf X 75 0), some (rf X 76 0), some (.int y5), none, none, none] 28 []) (hw : wp_L_law_b517 Ls xs x5 h P28 Q) : GG X (k + 2) (z + 12) NT h [some (.ref bs), some (rf X 10 0), some (rf X 11 0), some (rf X 75 0), some (rf X 76 0), some (.int x5), none, none, none] 517 [] := by
  unfold wp_L_law_b517 at hw
  refine r_goto E 1951 (by decide) dL_law_517 ?_
  exact GG_wid (by omega) (by omega) (GG_weak [true, true, true, true, true, true, false, false, false] rfl (t_L_law_b1951 h x5 Ls xs bs hSX k z hkb hzb hc E hE P28 hP28  hw))
set_option maxRecDepth 20000 in
theorem t_L_law_b592 {X : Ctx} (h : Hp) (x5 : Int32)  (Ls : Nat) (xs : Nat → Int32) (bs : Nat) (hSX : SX X bs Ls xs) (k z : Nat) (hkb : k + 4 ≤ 300000) (hzb : z + 24 ≤ 3000000) (hc : ¬ ((nI Ls - 6) < x5)) (E : EE X cL_law RL 9 1024 50000 300000 3000000) {Q : Int32 → Hp → Prop} (hE : ENDi X cL_law .boolean (fun r u => isB r ∧ Q r u) NT 300000 3000000) (P28 : Int32 → Hp → Prop) (hP28 : ∀ (y5 : Int32) (u : Hp), y5 = x5 + 6 → ¬ ((nI Ls - 6) < x5) → P28 y5 u → GG X (k + 4) (z + 24) NT u [some (.ref bs), some (rf X 10 0), some (rf X 11 0), some (rf X 75 0), some (rf X 76 0), some (.int y5), none, none, none] 28 []) (hw : wp_L_law_b592 Ls xs x5 h P28 Q) : GG X (k + 2) (z + 12) NT h [some (.ref bs), some (rf X 10 0), some (rf X 11 0), some (rf X 75 0), some (rf X 76 0), some (.int x5), none, none, none] 592 [] := by
  unfold wp_L_law_b592 at hw
  refine r_goto E 1951 (by decide) dL_law_592 ?_
  exact GG_wid (by omega) (by omega) (GG_weak [true, true, true, true, true, true, false, false, false] rfl (t_L_law_b1951 h x5 Ls xs bs hSX k z hkb hzb hc E hE P28 hP28  hw))
set_option maxRecDepth 20000 in
theorem t_L_law_b586 {X : Ctx} (h : Hp) (x5 : Int32) (s0 : Int64) (s1 : Int64)  (Ls : Nat) (xs : Nat → Int32) (bs : Nat) (hSX : SX X bs Ls xs) (k z : Nat) (hkb : k + 4 ≤ 300000) (hzb : z + 24 ≤ 3000000) (hc : ¬ ((nI Ls - 6) < x5)) (E : EE X cL_law RL 9 1024 50000 300000 3000000) {Q : Int32 → Hp → Prop} (hE : ENDi X cL_law .boolean (fun r u => isB r ∧ Q r u) NT 300000 3000000) (P28 : Int32 → Hp → Prop) (hP28 : ∀ (y5 : Int32) (u : Hp), y5 = x5 + 6 → ¬ ((nI Ls - 6) < x5) → P28 y5 u → GG X (k + 4) (z + 24) NT u [some (.ref bs), some (rf X 10 0), some (rf X 11 0), some (rf X 75 0), some (rf X 76 0), some (.int y5), none, none, none] 28 []) (hw : wp_L_law_b586 Ls xs x5 s0 s1 h P28 Q) : GG X (k + 2) (z + 12) NT h [some (.ref bs), some (rf X 10 0), some (rf X 11 0), some (rf X 75 0), some (rf X 76 0), some (.int x5), none, none, none] 586 [.long s1, .long s0] := by
  unfold wp_L_law_b586 at hw
  refine r_lcmp_eq E 592 (by decide) dL_law_586 dL_law_587 (fun c1 => ?_) (fun c1 => ?_)
  · have hw := ite_t hw c1
    exact GG_weak [true, true, true, true, true, true, false, false, false] rfl (t_L_law_b592 h x5 Ls xs bs hSX k z hkb hzb hc E hE P28 hP28  hw)
  · have hw := ite_f hw c1
    refine r_iconst E 0 rfl dL_law_590 ?_
    exact hE _ _ _ _ _ _ (by omega) (by omega) dL_law_591 (isB_nar isB_0) ⟨isB_0, hw⟩
set_option maxRecDepth 20000 in
theorem t_L_law_b660 {X : Ctx} (h : Hp) (x5 : Int32)  (Ls : Nat) (xs : Nat → Int32) (bs : Nat) (hSX : SX X bs Ls xs) (k z : Nat) (hkb : k + 4 ≤ 300000) (hzb : z + 24 ≤ 3000000) (hc : ¬ ((nI Ls - 6) < x5)) (E : EE X cL_law RL 9 1024 50000 300000 3000000) {Q : Int32 → Hp → Prop} (hE : ENDi X cL_law .boolean (fun r u => isB r ∧ Q r u) NT 300000 3000000) (P28 : Int32 → Hp → Prop) (hP28 : ∀ (y5 : Int32) (u : Hp), y5 = x5 + 6 → ¬ ((nI Ls - 6) < x5) → P28 y5 u → GG X (k + 4) (z + 24) NT u [some (.ref bs), some (rf X 10 0), some (rf X 11 0), some (rf X 75 0), some (rf X 76 0), some (.int y5), none, none, none] 28 []) (hw : wp_L_law_b660 Ls xs x5 h P28 Q) : GG X (k + 3) (z + 18) NT h [some (.ref bs), some (rf X 10 0), some (rf X 11 0), some (rf X 75 0), some (rf X 76 0), some (.int x5), none, none, none] 660 [] := by
  unfold wp_L_law_b660 at hw
  refine r_goto E 1951 (by decide) dL_law_660 ?_
  exact GG_wid (by omega) (by omega) (GG_weak [true, true, true, true, true, true, false, false, false] rfl (t_L_law_b1951 h x5 Ls xs bs hSX k z hkb hzb hc E hE P28 hP28  hw))
set_option maxRecDepth 20000 in
theorem t_L_law_b742 {X : Ctx} (h : Hp) (x5 : Int32)  (Ls : Nat) (xs : Nat → Int32) (bs : Nat) (hSX : SX X bs Ls xs) (k z : Nat) (hkb : k + 4 ≤ 300000) (hzb : z + 24 ≤ 3000000) (hc : ¬ ((nI Ls - 6) < x5)) (E : EE X cL_law RL 9 1024 50000 300000 3000000) {Q : Int32 → Hp → Prop} (hE : ENDi X cL_law .boolean (fun r u => isB r ∧ Q r u) NT 300000 3000000) (P28 : Int32 → Hp → Prop) (hP28 : ∀ (y5 : Int32) (u : Hp), y5 = x5 + 6 → ¬ ((nI Ls - 6) < x5) → P28 y5 u → GG X (k + 4) (z + 24) NT u [some (.ref bs), some (rf X 10 0), some (rf X 11 0), some (rf X 75 0), some (rf X 76 0), some (.int y5), none, none, none] 28 []) (hw : wp_L_law_b742 Ls xs x5 h P28 Q) : GG X (k + 3) (z + 18) NT h [some (.ref bs), some (rf X 10 0), some (rf X 11 0), some (rf X 75 0), some (rf X 76 0), some (.int x5), none, none, none] 742 [] := by
  unfold wp_L_law_b742 at hw
  refine r_goto E 1951 (by decide) dL_law_742 ?_
  exact GG_wid (by omega) (by omega) (GG_weak [true, true, true, true, true, true, false, false, false] rfl (t_L_law_b1951 h x5 Ls xs bs hSX k z hkb hzb hc E hE P28 hP28  hw))
set_option maxRecDepth 20000 in
theorem t_L_law_b817 {X : Ctx} (h : Hp) (x5 : Int32)  (Ls : Nat) (xs : Nat → Int32) (bs : Nat) (hSX : SX X bs Ls xs) (k z : Nat) (hkb : k + 4 ≤ 300000) (hzb : z + 24 ≤ 3000000) (hc : ¬ ((nI Ls - 6) < x5)) (E : EE X cL_law RL 9 1024 50000 300000 3000000) {Q : Int32 → Hp → Prop} (hE : ENDi X cL_law .boolean (fun r u => isB r ∧ Q r u) NT 300000 3000000) (P28 : Int32 → Hp → Prop) (hP28 : ∀ (y5 : Int32) (u : Hp), y5 = x5 + 6 → ¬ ((nI Ls - 6) < x5) → P28 y5 u → GG X (k + 4) (z + 24) NT u [some (.ref bs), some (rf X 10 0), some (rf X 11 0), some (rf X 75 0), some (rf X 76 0), some (.int y5), none, none, none] 28 []) (hw : wp_L_law_b817 Ls xs x5 h P28 Q) : GG X (k + 2) (z + 12) NT h [some (.ref bs), some (rf X 10 0), some (rf X 11 0), some (rf X 75 0), some (rf X 76 0), some (.int x5), none, none, none] 817 [] := by
  unfold wp_L_law_b817 at hw
  refine r_goto E 1951 (by decide) dL_law_817 ?_
  exact GG_wid (by omega) (by omega) (GG_weak [true, true, true, true, true, true, false, false, false] rfl (t_L_law_b1951 h x5 Ls xs bs hSX k z hkb hzb hc E hE P28 hP28  hw))
set_option maxRecDepth 20000 in
theorem t_L_law_b811 {X : Ctx} (h : Hp) (x5 : Int32) (s0 : Int64) (s1 : Int64)  (Ls : Nat) (xs : Nat → Int32) (bs : Nat) (hSX : SX X bs Ls xs) (k z : Nat) (hkb : k + 4 ≤ 300000) (hzb : z + 24 ≤ 3000000) (hc : ¬ ((nI Ls - 6) < x5)) (E : EE X cL_law RL 9 1024 50000 300000 3000000) {Q : Int32 → Hp → Prop} (hE : ENDi X cL_law .boolean (fun r u => isB r ∧ Q r u) NT 300000 3000000) (P28 : Int32 → Hp → Prop) (hP28 : ∀ (y5 : Int32) (u : Hp), y5 = x5 + 6 → ¬ ((nI Ls - 6) < x5) → P28 y5 u → GG X (k + 4) (z + 24) NT u [some (.ref bs), some (rf X 10 0), some (rf X 11 0), some (rf X 75 0), some (rf X 76 0), some (.int y5), none, none, none] 28 []) (hw : wp_L_law_b811 Ls xs x5 s0 s1 h P28 Q) : GG X (k + 2) (z + 12) NT h [some (.ref bs), some (rf X 10 0), some (rf X 11 0), some (rf X 75 0), some (rf X 76 0), some (.int x5), none, none, none] 811 [.long s1, .long s0] := by
  unfold wp_L_law_b811 at hw
  refine r_lcmp_eq E 817 (by decide) dL_law_811 dL_law_812 (fun c1 => ?_) (fun c1 => ?_)
  · have hw := ite_t hw c1
    exact GG_weak [true, true, true, true, true, true, false, false, false] rfl (t_L_law_b817 h x5 Ls xs bs hSX k z hkb hzb hc E hE P28 hP28  hw)
  · have hw := ite_f hw c1
    refine r_iconst E 0 rfl dL_law_815 ?_
    exact hE _ _ _ _ _ _ (by omega) (by omega) dL_law_816 (isB_nar isB_0) ⟨isB_0, hw⟩
set_option maxRecDepth 20000 in
theorem t_L_law_b885 {X : Ctx} (h : Hp) (x5 : Int32)  (Ls : Nat) (xs : Nat → Int32) (bs : Nat) (hSX : SX X bs Ls xs) (k z : Nat) (hkb : k + 4 ≤ 300000) (hzb : z + 24 ≤ 3000000) (hc : ¬ ((nI Ls - 6) < x5)) (E : EE X cL_law RL 9 1024 50000 300000 3000000) {Q : Int32 → Hp → Prop} (hE : ENDi X cL_law .boolean (fun r u => isB r ∧ Q r u) NT 300000 3000000) (P28 : Int32 → Hp → Prop) (hP28 : ∀ (y5 : Int32) (u : Hp), y5 = x5 + 6 → ¬ ((nI Ls - 6) < x5) → P28 y5 u → GG X (k + 4) (z + 24) NT u [some (.ref bs), some (rf X 10 0), some (rf X 11 0), some (rf X 75 0), some (rf X 76 0), some (.int y5), none, none, none] 28 []) (hw : wp_L_law_b885 Ls xs x5 h P28 Q) : GG X (k + 3) (z + 18) NT h [some (.ref bs), some (rf X 10 0), some (rf X 11 0), some (rf X 75 0), some (rf X 76 0), some (.int x5), none, none, none] 885 [] := by
  unfold wp_L_law_b885 at hw
  refine r_goto E 1951 (by decide) dL_law_885 ?_
  exact GG_wid (by omega) (by omega) (GG_weak [true, true, true, true, true, true, false, false, false] rfl (t_L_law_b1951 h x5 Ls xs bs hSX k z hkb hzb hc E hE P28 hP28  hw))
set_option maxRecDepth 20000 in
theorem t_L_law_b979 {X : Ctx} (h : Hp) (x5 : Int32)  (Ls : Nat) (xs : Nat → Int32) (bs : Nat) (hSX : SX X bs Ls xs) (k z : Nat) (hkb : k + 4 ≤ 300000) (hzb : z + 24 ≤ 3000000) (hc : ¬ ((nI Ls - 6) < x5)) (E : EE X cL_law RL 9 1024 50000 300000 3000000) {Q : Int32 → Hp → Prop} (hE : ENDi X cL_law .boolean (fun r u => isB r ∧ Q r u) NT 300000 3000000) (P28 : Int32 → Hp → Prop) (hP28 : ∀ (y5 : Int32) (u : Hp), y5 = x5 + 6 → ¬ ((nI Ls - 6) < x5) → P28 y5 u → GG X (k + 4) (z + 24) NT u [some (.ref bs), some (rf X 10 0), some (rf X 11 0), some (rf X 75 0), some (rf X 76 0), some (.int y5), none, none, none] 28 []) (hw : wp_L_law_b979 Ls xs x5 h P28 Q) : GG X (k + 3) (z + 18) NT h [some (.ref bs), some (rf X 10 0), some (rf X 11 0), some (rf X 75 0), some (rf X 76 0), some (.int x5), none, none, none] 979 [] := by
  unfold wp_L_law_b979 at hw
  refine r_goto E 1951 (by decide) dL_law_979 ?_
  exact GG_wid (by omega) (by omega) (GG_weak [true, true, true, true, true, true, false, false, false] rfl (t_L_law_b1951 h x5 Ls xs bs hSX k z hkb hzb hc E hE P28 hP28  hw))
set_option maxRecDepth 20000 in
theorem t_L_law_b1035 {X : Ctx} (h : Hp) (x5 : Int32)  (Ls : Nat) (xs : Nat → Int32) (bs : Nat) (hSX : SX X bs Ls xs) (k z : Nat) (hkb : k + 4 ≤ 300000) (hzb : z + 24 ≤ 3000000) (hc : ¬ ((nI Ls - 6) < x5)) (E : EE X cL_law RL 9 1024 50000 300000 3000000) {Q : Int32 → Hp → Prop} (hE : ENDi X cL_law .boolean (fun r u => isB r ∧ Q r u) NT 300000 3000000) (P28 : Int32 → Hp → Prop) (hP28 : ∀ (y5 : Int32) (u : Hp), y5 = x5 + 6 → ¬ ((nI Ls - 6) < x5) → P28 y5 u → GG X (k + 4) (z + 24) NT u [some (.ref bs), some (rf X 10 0), some (rf X 11 0), some (rf X 75 0), some (rf X 76 0), some (.int y5), none, none, none] 28 []) (hw : wp_L_law_b1035 Ls xs x5 h P28 Q) : GG X (k + 1) (z + 6) NT h [some (.ref bs), some (rf X 10 0), some (rf X 11 0), some (rf X 75 0), some (rf X 76 0), some (.int x5), none, none, none] 1035 [] := by
  unfold wp_L_law_b1035 at hw
  refine r_goto E 1951 (by decide) dL_law_1035 ?_
  exact GG_wid (by omega) (by omega) (GG_weak [true, true, true, true, true, true, false, false, false] rfl (t_L_law_b1951 h x5 Ls xs bs hSX k z hkb hzb hc E hE P28 hP28  hw))
set_option maxRecDepth 20000 in
theorem t_L_law_b1115 {X : Ctx} (h : Hp) (x5 : Int32)  (Ls : Nat) (xs : Nat → Int32) (bs : Nat) (hSX : SX X bs Ls xs) (k z : Nat) (hkb : k + 4 ≤ 300000) (hzb : z + 24 ≤ 3000000) (hc : ¬ ((nI Ls - 6) < x5)) (E : EE X cL_law RL 9 1024 50000 300000 3000000) {Q : Int32 → Hp → Prop} (hE : ENDi X cL_law .boolean (fun r u => isB r ∧ Q r u) NT 300000 3000000) (P28 : Int32 → Hp → Prop) (hP28 : ∀ (y5 : Int32) (u : Hp), y5 = x5 + 6 → ¬ ((nI Ls - 6) < x5) → P28 y5 u → GG X (k + 4) (z + 24) NT u [some (.ref bs), some (rf X 10 0), some (rf X 11 0), some (rf X 75 0), some (rf X 76 0), some (.int y5), none, none, none] 28 []) (hw : wp_L_law_b1115 Ls xs x5 h P28 Q) : GG X (k + 4) (z + 24) NT h [some (.ref bs), some (rf X 10 0), some (rf X 11 0), some (rf X 75 0), some (rf X 76 0), some (.int x5), none, none, none] 1115 [] := by
  unfold wp_L_law_b1115 at hw
  refine r_goto E 1951 (by decide) dL_law_1115 ?_
  exact GG_weak [true, true, true, true, true, true, false, false, false] rfl (t_L_law_b1951 h x5 Ls xs bs hSX k z hkb hzb hc E hE P28 hP28  hw)
set_option maxRecDepth 20000 in
theorem t_L_law_b1171 {X : Ctx} (h : Hp) (x5 : Int32)  (Ls : Nat) (xs : Nat → Int32) (bs : Nat) (hSX : SX X bs Ls xs) (k z : Nat) (hkb : k + 4 ≤ 300000) (hzb : z + 24 ≤ 3000000) (hc : ¬ ((nI Ls - 6) < x5)) (E : EE X cL_law RL 9 1024 50000 300000 3000000) {Q : Int32 → Hp → Prop} (hE : ENDi X cL_law .boolean (fun r u => isB r ∧ Q r u) NT 300000 3000000) (P28 : Int32 → Hp → Prop) (hP28 : ∀ (y5 : Int32) (u : Hp), y5 = x5 + 6 → ¬ ((nI Ls - 6) < x5) → P28 y5 u → GG X (k + 4) (z + 24) NT u [some (.ref bs), some (rf X 10 0), some (rf X 11 0), some (rf X 75 0), some (rf X 76 0), some (.int y5), none, none, none] 28 []) (hw : wp_L_law_b1171 Ls xs x5 h P28 Q) : GG X (k + 1) (z + 6) NT h [some (.ref bs), some (rf X 10 0), some (rf X 11 0), some (rf X 75 0), some (rf X 76 0), some (.int x5), none, none, none] 1171 [] := by
  unfold wp_L_law_b1171 at hw
  refine r_goto E 1951 (by decide) dL_law_1171 ?_
  exact GG_wid (by omega) (by omega) (GG_weak [true, true, true, true, true, true, false, false, false] rfl (t_L_law_b1951 h x5 Ls xs bs hSX k z hkb hzb hc E hE P28 hP28  hw))
set_option maxRecDepth 20000 in
theorem t_L_law_b1239 {X : Ctx} (h : Hp) (x5 : Int32)  (Ls : Nat) (xs : Nat → Int32) (bs : Nat) (hSX : SX X bs Ls xs) (k z : Nat) (hkb : k + 4 ≤ 300000) (hzb : z + 24 ≤ 3000000) (hc : ¬ ((nI Ls - 6) < x5)) (E : EE X cL_law RL 9 1024 50000 300000 3000000) {Q : Int32 → Hp → Prop} (hE : ENDi X cL_law .boolean (fun r u => isB r ∧ Q r u) NT 300000 3000000) (P28 : Int32 → Hp → Prop) (hP28 : ∀ (y5 : Int32) (u : Hp), y5 = x5 + 6 → ¬ ((nI Ls - 6) < x5) → P28 y5 u → GG X (k + 4) (z + 24) NT u [some (.ref bs), some (rf X 10 0), some (rf X 11 0), some (rf X 75 0), some (rf X 76 0), some (.int y5), none, none, none] 28 []) (hw : wp_L_law_b1239 Ls xs x5 h P28 Q) : GG X (k + 2) (z + 12) NT h [some (.ref bs), some (rf X 10 0), some (rf X 11 0), some (rf X 75 0), some (rf X 76 0), some (.int x5), none, none, none] 1239 [] := by
  unfold wp_L_law_b1239 at hw
  refine r_goto E 1951 (by decide) dL_law_1239 ?_
  exact GG_wid (by omega) (by omega) (GG_weak [true, true, true, true, true, true, false, false, false] rfl (t_L_law_b1951 h x5 Ls xs bs hSX k z hkb hzb hc E hE P28 hP28  hw))
set_option maxRecDepth 20000 in
theorem t_L_law_b1308 {X : Ctx} (h : Hp) (x5 : Int32)  (Ls : Nat) (xs : Nat → Int32) (bs : Nat) (hSX : SX X bs Ls xs) (k z : Nat) (hkb : k + 4 ≤ 300000) (hzb : z + 24 ≤ 3000000) (hc : ¬ ((nI Ls - 6) < x5)) (E : EE X cL_law RL 9 1024 50000 300000 3000000) {Q : Int32 → Hp → Prop} (hE : ENDi X cL_law .boolean (fun r u => isB r ∧ Q r u) NT 300000 3000000) (P28 : Int32 → Hp → Prop) (hP28 : ∀ (y5 : Int32) (u : Hp), y5 = x5 + 6 → ¬ ((nI Ls - 6) < x5) → P28 y5 u → GG X (k + 4) (z + 24) NT u [some (.ref bs), some (rf X 10 0), some (rf X 11 0), some (rf X 75 0), some (rf X 76 0), some (.int y5), none, none, none] 28 []) (hw : wp_L_law_b1308 Ls xs x5 h P28 Q) : GG X (k + 1) (z + 6) NT h [some (.ref bs), some (rf X 10 0), some (rf X 11 0), some (rf X 75 0), some (rf X 76 0), some (.int x5), none, none, none] 1308 [] := by
  unfold wp_L_law_b1308 at hw
  refine r_goto E 1951 (by decide) dL_law_1308 ?_
  exact GG_wid (by omega) (by omega) (GG_weak [true, true, true, true, true, true, false, false, false] rfl (t_L_law_b1951 h x5 Ls xs bs hSX k z hkb hzb hc E hE P28 hP28  hw))
set_option maxRecDepth 20000 in
theorem t_L_law_b1379 {X : Ctx} (h : Hp) (x5 : Int32)  (Ls : Nat) (xs : Nat → Int32) (bs : Nat) (hSX : SX X bs Ls xs) (k z : Nat) (hkb : k + 4 ≤ 300000) (hzb : z + 24 ≤ 3000000) (hc : ¬ ((nI Ls - 6) < x5)) (E : EE X cL_law RL 9 1024 50000 300000 3000000) {Q : Int32 → Hp → Prop} (hE : ENDi X cL_law .boolean (fun r u => isB r ∧ Q r u) NT 300000 3000000) (P28 : Int32 → Hp → Prop) (hP28 : ∀ (y5 : Int32) (u : Hp), y5 = x5 + 6 → ¬ ((nI Ls - 6) < x5) → P28 y5 u → GG X (k + 4) (z + 24) NT u [some (.ref bs), some (rf X 10 0), some (rf X 11 0), some (rf X 75 0), some (rf X 76 0), some (.int y5), none, none, none] 28 []) (hw : wp_L_law_b1379 Ls xs x5 h P28 Q) : GG X (k + 1) (z + 6) NT h [some (.ref bs), some (rf X 10 0), some (rf X 11 0), some (rf X 75 0), some (rf X 76 0), some (.int x5), none, none, none] 1379 [] := by
  unfold wp_L_law_b1379 at hw
  refine r_goto E 1951 (by decide) dL_law_1379 ?_
  exact GG_wid (by omega) (by omega) (GG_weak [true, true, true, true, true, true, false, false, false] rfl (t_L_law_b1951 h x5 Ls xs bs hSX k z hkb hzb hc E hE P28 hP28  hw))
set_option maxRecDepth 20000 in
theorem t_L_law_b1448 {X : Ctx} (h : Hp) (x5 : Int32)  (Ls : Nat) (xs : Nat → Int32) (bs : Nat) (hSX : SX X bs Ls xs) (k z : Nat) (hkb : k + 4 ≤ 300000) (hzb : z + 24 ≤ 3000000) (hc : ¬ ((nI Ls - 6) < x5)) (E : EE X cL_law RL 9 1024 50000 300000 3000000) {Q : Int32 → Hp → Prop} (hE : ENDi X cL_law .boolean (fun r u => isB r ∧ Q r u) NT 300000 3000000) (P28 : Int32 → Hp → Prop) (hP28 : ∀ (y5 : Int32) (u : Hp), y5 = x5 + 6 → ¬ ((nI Ls - 6) < x5) → P28 y5 u → GG X (k + 4) (z + 24) NT u [some (.ref bs), some (rf X 10 0), some (rf X 11 0), some (rf X 75 0), some (rf X 76 0), some (.int y5), none, none, none] 28 []) (hw : wp_L_law_b1448 Ls xs x5 h P28 Q) : GG X (k + 1) (z + 6) NT h [some (.ref bs), some (rf X 10 0), some (rf X 11 0), some (rf X 75 0), some (rf X 76 0), some (.int x5), none, none, none] 1448 [] := by
  unfold wp_L_law_b1448 at hw
  refine r_goto E 1951 (by decide) dL_law_1448 ?_
  exact GG_wid (by omega) (by omega) (GG_weak [true, true, true, true, true, true, false, false, false] rfl (t_L_law_b1951 h x5 Ls xs bs hSX k z hkb hzb hc E hE P28 hP28  hw))
set_option maxRecDepth 20000 in
theorem t_L_law_b1504 {X : Ctx} (h : Hp) (x5 : Int32)  (Ls : Nat) (xs : Nat → Int32) (bs : Nat) (hSX : SX X bs Ls xs) (k z : Nat) (hkb : k + 4 ≤ 300000) (hzb : z + 24 ≤ 3000000) (hc : ¬ ((nI Ls - 6) < x5)) (E : EE X cL_law RL 9 1024 50000 300000 3000000) {Q : Int32 → Hp → Prop} (hE : ENDi X cL_law .boolean (fun r u => isB r ∧ Q r u) NT 300000 3000000) (P28 : Int32 → Hp → Prop) (hP28 : ∀ (y5 : Int32) (u : Hp), y5 = x5 + 6 → ¬ ((nI Ls - 6) < x5) → P28 y5 u → GG X (k + 4) (z + 24) NT u [some (.ref bs), some (rf X 10 0), some (rf X 11 0), some (rf X 75 0), some (rf X 76 0), some (.int y5), none, none, none] 28 []) (hw : wp_L_law_b1504 Ls xs x5 h P28 Q) : GG X (k + 1) (z + 6) NT h [some (.ref bs), some (rf X 10 0), some (rf X 11 0), some (rf X 75 0), some (rf X 76 0), some (.int x5), none, none, none] 1504 [] := by
  unfold wp_L_law_b1504 at hw
  refine r_goto E 1951 (by decide) dL_law_1504 ?_
  exact GG_wid (by omega) (by omega) (GG_weak [true, true, true, true, true, true, false, false, false] rfl (t_L_law_b1951 h x5 Ls xs bs hSX k z hkb hzb hc E hE P28 hP28  hw))
set_option maxRecDepth 20000 in
theorem t_L_law_b1572 {X : Ctx} (h : Hp) (x5 : Int32)  (Ls : Nat) (xs : Nat → Int32) (bs : Nat) (hSX : SX X bs Ls xs) (k z : Nat) (hkb : k + 4 ≤ 300000) (hzb : z + 24 ≤ 3000000) (hc : ¬ ((nI Ls - 6) < x5)) (E : EE X cL_law RL 9 1024 50000 300000 3000000) {Q : Int32 → Hp → Prop} (hE : ENDi X cL_law .boolean (fun r u => isB r ∧ Q r u) NT 300000 3000000) (P28 : Int32 → Hp → Prop) (hP28 : ∀ (y5 : Int32) (u : Hp), y5 = x5 + 6 → ¬ ((nI Ls - 6) < x5) → P28 y5 u → GG X (k + 4) (z + 24) NT u [some (.ref bs), some (rf X 10 0), some (rf X 11 0), some (rf X 75 0), some (rf X 76 0), some (.int y5), none, none, none] 28 []) (hw : wp_L_law_b1572 Ls xs x5 h P28 Q) : GG X (k + 2) (z + 12) NT h [some (.ref bs), some (rf X 10 0), some (rf X 11 0), some (rf X 75 0), some (rf X 76 0), some (.int x5), none, none, none] 1572 [] := by
  unfold wp_L_law_b1572 at hw
  refine r_goto E 1951 (by decide) dL_law_1572 ?_
  exact GG_wid (by omega) (by omega) (GG_weak [true, true, true, true, true, true, false, false, false] rfl (t_L_law_b1951 h x5 Ls xs bs hSX k z hkb hzb hc E hE P28 hP28  hw))
set_option maxRecDepth 20000 in
theorem t_L_law_b1647 {X : Ctx} (h : Hp) (x5 : Int32)  (Ls : Nat) (xs : Nat → Int32) (bs : Nat) (hSX : SX X bs Ls xs) (k z : Nat) (hkb : k + 4 ≤ 300000) (hzb : z + 24 ≤ 3000000) (hc : ¬ ((nI Ls - 6) < x5)) (E : EE X cL_law RL 9 1024 50000 300000 3000000) {Q : Int32 → Hp → Prop} (hE : ENDi X cL_law .boolean (fun r u => isB r ∧ Q r u) NT 300000 3000000) (P28 : Int32 → Hp → Prop) (hP28 : ∀ (y5 : Int32) (u : Hp), y5 = x5 + 6 → ¬ ((nI Ls - 6) < x5) → P28 y5 u → GG X (k + 4) (z + 24) NT u [some (.ref bs), some (rf X 10 0), some (rf X 11 0), some (rf X 75 0), some (rf X 76 0), some (.int y5), none, none, none] 28 []) (hw : wp_L_law_b1647 Ls xs x5 h P28 Q) : GG X (k + 2) (z + 12) NT h [some (.ref bs), some (rf X 10 0), some (rf X 11 0), some (rf X 75 0), some (rf X 76 0), some (.int x5), none, none, none] 1647 [] := by
  unfold wp_L_law_b1647 at hw
  refine r_goto E 1951 (by decide) dL_law_1647 ?_
  exact GG_wid (by omega) (by omega) (GG_weak [true, true, true, true, true, true, false, false, false] rfl (t_L_law_b1951 h x5 Ls xs bs hSX k z hkb hzb hc E hE P28 hP28  hw))
set_option maxRecDepth 20000 in
theorem t_L_law_b1641 {X : Ctx} (h : Hp) (x5 : Int32) (s0 : Int64) (s1 : Int64)  (Ls : Nat) (xs : Nat → Int32) (bs : Nat) (hSX : SX X bs Ls xs) (k z : Nat) (hkb : k + 4 ≤ 300000) (hzb : z + 24 ≤ 3000000) (hc : ¬ ((nI Ls - 6) < x5)) (E : EE X cL_law RL 9 1024 50000 300000 3000000) {Q : Int32 → Hp → Prop} (hE : ENDi X cL_law .boolean (fun r u => isB r ∧ Q r u) NT 300000 3000000) (P28 : Int32 → Hp → Prop) (hP28 : ∀ (y5 : Int32) (u : Hp), y5 = x5 + 6 → ¬ ((nI Ls - 6) < x5) → P28 y5 u → GG X (k + 4) (z + 24) NT u [some (.ref bs), some (rf X 10 0), some (rf X 11 0), some (rf X 75 0), some (rf X 76 0), some (.int y5), none, none, none] 28 []) (hw : wp_L_law_b1641 Ls xs x5 s0 s1 h P28 Q) : GG X (k + 2) (z + 12) NT h [some (.ref bs), some (rf X 10 0), some (rf X 11 0), some (rf X 75 0), some (rf X 76 0), some (.int x5), none, none, none] 1641 [.long s1, .long s0] := by
  unfold wp_L_law_b1641 at hw
  refine r_lcmp_eq E 1647 (by decide) dL_law_1641 dL_law_1642 (fun c1 => ?_) (fun c1 => ?_)
  · have hw := ite_t hw c1
    exact GG_weak [true, true, true, true, true, true, false, false, false] rfl (t_L_law_b1647 h x5 Ls xs bs hSX k z hkb hzb hc E hE P28 hP28  hw)
  · have hw := ite_f hw c1
    refine r_iconst E 0 rfl dL_law_1645 ?_
    exact hE _ _ _ _ _ _ (by omega) (by omega) dL_law_1646 (isB_nar isB_0) ⟨isB_0, hw⟩
set_option maxRecDepth 20000 in
theorem t_L_law_b1722 {X : Ctx} (h : Hp) (x5 : Int32)  (Ls : Nat) (xs : Nat → Int32) (bs : Nat) (hSX : SX X bs Ls xs) (k z : Nat) (hkb : k + 4 ≤ 300000) (hzb : z + 24 ≤ 3000000) (hc : ¬ ((nI Ls - 6) < x5)) (E : EE X cL_law RL 9 1024 50000 300000 3000000) {Q : Int32 → Hp → Prop} (hE : ENDi X cL_law .boolean (fun r u => isB r ∧ Q r u) NT 300000 3000000) (P28 : Int32 → Hp → Prop) (hP28 : ∀ (y5 : Int32) (u : Hp), y5 = x5 + 6 → ¬ ((nI Ls - 6) < x5) → P28 y5 u → GG X (k + 4) (z + 24) NT u [some (.ref bs), some (rf X 10 0), some (rf X 11 0), some (rf X 75 0), some (rf X 76 0), some (.int y5), none, none, none] 28 []) (hw : wp_L_law_b1722 Ls xs x5 h P28 Q) : GG X (k + 2) (z + 12) NT h [some (.ref bs), some (rf X 10 0), some (rf X 11 0), some (rf X 75 0), some (rf X 76 0), some (.int x5), none, none, none] 1722 [] := by
  unfold wp_L_law_b1722 at hw
  refine r_goto E 1951 (by decide) dL_law_1722 ?_
  exact GG_wid (by omega) (by omega) (GG_weak [true, true, true, true, true, true, false, false, false] rfl (t_L_law_b1951 h x5 Ls xs bs hSX k z hkb hzb hc E hE P28 hP28  hw))
set_option maxRecDepth 20000 in
theorem t_L_law_b1716 {X : Ctx} (h : Hp) (x5 : Int32) (s0 : Int64) (s1 : Int64)  (Ls : Nat) (xs : Nat → Int32) (bs : Nat) (hSX : SX X bs Ls xs) (k z : Nat) (hkb : k + 4 ≤ 300000) (hzb : z + 24 ≤ 3000000) (hc : ¬ ((nI Ls - 6) < x5)) (E : EE X cL_law RL 9 1024 50000 300000 3000000) {Q : Int32 → Hp → Prop} (hE : ENDi X cL_law .boolean (fun r u => isB r ∧ Q r u) NT 300000 3000000) (P28 : Int32 → Hp → Prop) (hP28 : ∀ (y5 : Int32) (u : Hp), y5 = x5 + 6 → ¬ ((nI Ls - 6) < x5) → P28 y5 u → GG X (k + 4) (z + 24) NT u [some (.ref bs), some (rf X 10 0), some (rf X 11 0), some (rf X 75 0), some (rf X 76 0), some (.int y5), none, none, none] 28 []) (hw : wp_L_law_b1716 Ls xs x5 s0 s1 h P28 Q) : GG X (k + 2) (z + 12) NT h [some (.ref bs), some (rf X 10 0), some (rf X 11 0), some (rf X 75 0), some (rf X 76 0), some (.int x5), none, none, none] 1716 [.long s1, .long s0] := by
  unfold wp_L_law_b1716 at hw
  refine r_lcmp_eq E 1722 (by decide) dL_law_1716 dL_law_1717 (fun c1 => ?_) (fun c1 => ?_)
  · have hw := ite_t hw c1
    exact GG_weak [true, true, true, true, true, true, false, false, false] rfl (t_L_law_b1722 h x5 Ls xs bs hSX k z hkb hzb hc E hE P28 hP28  hw)
  · have hw := ite_f hw c1
    refine r_iconst E 0 rfl dL_law_1720 ?_
    exact hE _ _ _ _ _ _ (by omega) (by omega) dL_law_1721 (isB_nar isB_0) ⟨isB_0, hw⟩
set_option maxRecDepth 20000 in
theorem t_L_law_b1778 {X : Ctx} (h : Hp) (x5 : Int32)  (Ls : Nat) (xs : Nat → Int32) (bs : Nat) (hSX : SX X bs Ls xs) (k z : Nat) (hkb : k + 4 ≤ 300000) (hzb : z + 24 ≤ 3000000) (hc : ¬ ((nI Ls - 6) < x5)) (E : EE X cL_law RL 9 1024 50000 300000 3000000) {Q : Int32 → Hp → Prop} (hE : ENDi X cL_law .boolean (fun r u => isB r ∧ Q r u) NT 300000 3000000) (P28 : Int32 → Hp → Prop) (hP28 : ∀ (y5 : Int32) (u : Hp), y5 = x5 + 6 → ¬ ((nI Ls - 6) < x5) → P28 y5 u → GG X (k + 4) (z + 24) NT u [some (.ref bs), some (rf X 10 0), some (rf X 11 0), some (rf X 75 0), some (rf X 76 0), some (.int y5), none, none, none] 28 []) (hw : wp_L_law_b1778 Ls xs x5 h P28 Q) : GG X (k + 2) (z + 12) NT h [some (.ref bs), some (rf X 10 0), some (rf X 11 0), some (rf X 75 0), some (rf X 76 0), some (.int x5), none, none, none] 1778 [] := by
  unfold wp_L_law_b1778 at hw
  refine r_goto E 1951 (by decide) dL_law_1778 ?_
  exact GG_wid (by omega) (by omega) (GG_weak [true, true, true, true, true, true, false, false, false] rfl (t_L_law_b1951 h x5 Ls xs bs hSX k z hkb hzb hc E hE P28 hP28  hw))
set_option maxRecDepth 20000 in
theorem t_L_law_b1858 {X : Ctx} (h : Hp) (x5 : Int32)  (Ls : Nat) (xs : Nat → Int32) (bs : Nat) (hSX : SX X bs Ls xs) (k z : Nat) (hkb : k + 4 ≤ 300000) (hzb : z + 24 ≤ 3000000) (hc : ¬ ((nI Ls - 6) < x5)) (E : EE X cL_law RL 9 1024 50000 300000 3000000) {Q : Int32 → Hp → Prop} (hE : ENDi X cL_law .boolean (fun r u => isB r ∧ Q r u) NT 300000 3000000) (P28 : Int32 → Hp → Prop) (hP28 : ∀ (y5 : Int32) (u : Hp), y5 = x5 + 6 → ¬ ((nI Ls - 6) < x5) → P28 y5 u → GG X (k + 4) (z + 24) NT u [some (.ref bs), some (rf X 10 0), some (rf X 11 0), some (rf X 75 0), some (rf X 76 0), some (.int y5), none, none, none] 28 []) (hw : wp_L_law_b1858 Ls xs x5 h P28 Q) : GG X (k + 1) (z + 6) NT h [some (.ref bs), some (rf X 10 0), some (rf X 11 0), some (rf X 75 0), some (rf X 76 0), some (.int x5), none, none, none] 1858 [] := by
  unfold wp_L_law_b1858 at hw
  refine r_goto E 1951 (by decide) dL_law_1858 ?_
  exact GG_wid (by omega) (by omega) (GG_weak [true, true, true, true, true, true, false, false, false] rfl (t_L_law_b1951 h x5 Ls xs bs hSX k z hkb hzb hc E hE P28 hP28  hw))
set_option maxRecDepth 20000 in
theorem t_L_law_b1935 {X : Ctx} (h : Hp) (x5 : Int32)  (Ls : Nat) (xs : Nat → Int32) (bs : Nat) (hSX : SX X bs Ls xs) (k z : Nat) (hkb : k + 4 ≤ 300000) (hzb : z + 24 ≤ 3000000) (hc : ¬ ((nI Ls - 6) < x5)) (E : EE X cL_law RL 9 1024 50000 300000 3000000) {Q : Int32 → Hp → Prop} (hE : ENDi X cL_law .boolean (fun r u => isB r ∧ Q r u) NT 300000 3000000) (P28 : Int32 → Hp → Prop) (hP28 : ∀ (y5 : Int32) (u : Hp), y5 = x5 + 6 → ¬ ((nI Ls - 6) < x5) → P28 y5 u → GG X (k + 4) (z + 24) NT u [some (.ref bs), some (rf X 10 0), some (rf X 11 0), some (rf X 75 0), some (rf X 76 0), some (.int y5), none, none, none] 28 []) (hw : wp_L_law_b1935 Ls xs x5 h P28 Q) : GG X (k + 2) (z + 12) NT h [some (.ref bs), some (rf X 10 0), some (rf X 11 0), some (rf X 75 0), some (rf X 76 0), some (.int x5), none, none, none] 1935 [] := by
  unfold wp_L_law_b1935 at hw
  refine r_goto E 1951 (by decide) dL_law_1935 ?_
  exact GG_wid (by omega) (by omega) (GG_weak [true, true, true, true, true, true, false, false, false] rfl (t_L_law_b1951 h x5 Ls xs bs hSX k z hkb hzb hc E hE P28 hP28  hw))
set_option maxRecDepth 20000 in
theorem t_L_law_b28F {X : Ctx} (h : Hp) (x5 : Int32)  (Ls : Nat) (xs : Nat → Int32) (bs : Nat) (hSX : SX X bs Ls xs) (k z : Nat) (hkb : k + 4 ≤ 300000) (hzb : z + 24 ≤ 3000000) (E : EE X cL_law RL 9 1024 50000 300000 3000000) {Q : Int32 → Hp → Prop} (hE : ENDi X cL_law .boolean (fun r u => isB r ∧ Q r u) NT 300000 3000000)  (P28 : Int32 → Hp → Prop) (hP28 : ∀ (y5 : Int32) (u : Hp), y5 = x5 + 6 → ¬ ((nI Ls - 6) < x5) → P28 y5 u → GG X (k + 4) (z + 24) NT u [some (.ref bs), some (rf X 10 0), some (rf X 11 0), some (rf X 75 0), some (rf X 76 0), some (.int y5), none, none, none] 28 []) (hw : wp_L_law_b28F Ls xs    Q P28 x5 h) : GG X k z NT h [some (.ref bs), some (rf X 10 0), some (rf X 11 0), some (rf X 75 0), some (rf X 76 0), some (.int x5), none, none, none] 28 [] := by
  unfold wp_L_law_b28F at hw
  refine r_iload E x5 rfl dL_law_28 ?_
  refine r_aloadS E rfl dL_law_30 ?_
  refine r_slen E hSX dL_law_31 ?_
  refine r_bipush E 6 rfl dL_law_32 ?_
  refine r_isub E dL_law_34 ?_
  refine r_icmp_gt E 1957 (by decide) dL_law_35 (fun c1 => ?_) (fun c1 => ?_)
  · have hw := ite_t hw c1
    refine r_iconst E 1 rfl dL_law_1957 ?_
    exact hE _ _ _ _ _ _ (by omega) (by omega) dL_law_1958 (isB_nar isB_1) ⟨isB_1, hw⟩
  · have hw := ite_f hw c1
    have hc := c1
    refine r_aloadS E rfl dL_law_38 ?_
    refine r_iload E x5 rfl dL_law_39 ?_
    obtain ⟨i2, hw⟩ := hw
    refine r_sld E hSX i2 dL_law_41 ?_
    refine r_bipush E 31 rfl dL_law_42 ?_
    refine r_iand E dL_law_44 ?_
    rcases Decidable.em (((xs x5.toNatClampNeg) &&& 31) = 0) with c3 | c3
    · have hw := ite_t hw c3
      refine r_tableI E 0 c3 (off := 135) 180 dL_law_45 (by decide) (by decide) rfl (by decide) ?_
      refine r_aload_n E 10 0 rfl dL_law_180 ?_
      refine r_aloadS E rfl dL_law_181 ?_
      refine r_iload E x5 rfl dL_law_182 ?_
      refine r_iconst E 1 rfl dL_law_184 ?_
      refine r_iadd E dL_law_185 ?_
      obtain ⟨i4, hw⟩ := hw
      refine r_sld E hSX i4 dL_law_186 ?_
      refine r_aloadS E rfl dL_law_187 ?_
      refine r_iload E x5 rfl dL_law_188 ?_
      refine r_iconst E 2 rfl dL_law_190 ?_
      refine r_iadd E dL_law_191 ?_
      obtain ⟨i5, hw⟩ := hw
      refine r_sld E hSX i5 dL_law_192 ?_
      refine r_aloadS E rfl dL_law_193 ?_
      refine r_iload E x5 rfl dL_law_194 ?_
      refine r_iconst E 3 rfl dL_law_196 ?_
      refine r_iadd E dL_law_197 ?_
      obtain ⟨i6, hw⟩ := hw
      refine r_sld E hSX i6 dL_law_198 ?_
      refine r_aloadS E rfl dL_law_199 ?_
      refine r_iload E x5 rfl dL_law_200 ?_
      refine r_iconst E 4 rfl dL_law_202 ?_
      refine r_iadd E dL_law_203 ?_
      obtain ⟨i7, hw⟩ := hw
      refine r_sld E hSX i7 dL_law_204 ?_
      refine r_aloadS E rfl dL_law_205 ?_
      refine r_iload E x5 rfl dL_law_206 ?_
      refine r_iconst E 5 rfl dL_law_208 ?_
      refine r_iadd E dL_law_209 ?_
      obtain ⟨i8, hw⟩ := hw
      refine r_sld E hSX i8 dL_law_210 ?_
      refine r_aload_n E 75 0 rfl dL_law_211 ?_
      refine r_callW E (m_L_mail (EE_st E) (GX X) (xs (x5 + 1).toNatClampNeg) (xs (x5 + 2).toNatClampNeg) (xs (x5 + 3).toNatClampNeg) (xs (x5 + 4).toNatClampNeg) (xs (x5 + 5).toNatClampNeg) h _ hw) lk_L_108 lc_L_mail (RM_mk (Nat.le_of_ble_eq_true rfl) (Nat.le_of_ble_eq_true rfl)) rfl rfl rfl rfl (Nat.le_of_ble_eq_true rfl) (k1 := (k + 1)) (z1 := (z + 6)) rfl rfl (by omega) (by omega) dL_law_212 (fun r9 h10 hw => ?_)
      refine r_istore E [some (.ref bs), some (rf X 10 0), some (rf X 11 0), some (rf X 75 0), some (rf X 76 0), some (.int x5), some (.int r9), none, none] (Nat.le_of_ble_eq_true rfl) rfl dL_law_215 ?_
      refine r_aload_n E 11 0 rfl dL_law_217 ?_
      refine r_aloadS E rfl dL_law_218 ?_
      refine r_iload E x5 rfl dL_law_219 ?_
      refine r_iconst E 1 rfl dL_law_221 ?_
      refine r_iadd E dL_law_222 ?_
      refine r_sld E hSX i4 dL_law_223 ?_
      refine r_aloadS E rfl dL_law_224 ?_
      refine r_iload E x5 rfl dL_law_225 ?_
      refine r_iconst E 2 rfl dL_law_227 ?_
      refine r_iadd E dL_law_228 ?_
      refine r_sld E hSX i5 dL_law_229 ?_
      refine r_aloadS E rfl dL_law_230 ?_
      refine r_iload E x5 rfl dL_law_231 ?_
      refine r_iconst E 3 rfl dL_law_233 ?_
      refine r_iadd E dL_law_234 ?_
      refine r_sld E hSX i6 dL_law_235 ?_
      refine r_aloadS E rfl dL_law_236 ?_
      refine r_iload E x5 rfl dL_law_237 ?_
      refine r_iconst E 4 rfl dL_law_239 ?_
      refine r_iadd E dL_law_240 ?_
      refine r_sld E hSX i7 dL_law_241 ?_
      refine r_aloadS E rfl dL_law_242 ?_
      refine r_iload E x5 rfl dL_law_243 ?_
      refine r_iconst E 5 rfl dL_law_245 ?_
      refine r_iadd E dL_law_246 ?_
      refine r_sld E hSX i8 dL_law_247 ?_
      refine r_callVI E (m_X11_mail (EE_st E) (GX X) (xs (x5 + 1).toNatClampNeg) (xs (x5 + 2).toNatClampNeg) (xs (x5 + 3).toNatClampNeg) (xs (x5 + 4).toNatClampNeg) (xs (x5 + 5).toNatClampNeg) h10 _ hw) lk_L_113 (RM_mk (Nat.le_of_ble_eq_true rfl) (Nat.le_of_ble_eq_true rfl)) rfl rfl rfl rfl (Nat.le_of_ble_eq_true rfl) (adr_lt (Nat.le_of_ble_eq_true rfl)) (Nat.le_of_ble_eq_true rfl) (k1 := (k + 1)) (z1 := (z + 6)) rfl rfl (by omega) (by omega) dL_law_248 (fun r11 h12 hw => ?_)
      refine r_istore E [some (.ref bs), some (rf X 10 0), some (rf X 11 0), some (rf X 75 0), some (rf X 76 0), some (.int x5), some (.int r9), some (.int r11), none] (Nat.le_of_ble_eq_true rfl) rfl dL_law_251 ?_
      refine r_aload_n E 11 0 rfl dL_law_253 ?_
      refine r_callVI E (m_X11_thrown (EE_st E) (GX X)  h12 _ hw) lk_L_114 (RM_mk (Nat.le_of_ble_eq_true rfl) (Nat.le_of_ble_eq_true rfl)) rfl rfl rfl rfl (Nat.le_of_ble_eq_true rfl) (adr_lt (Nat.le_of_ble_eq_true rfl)) (Nat.le_of_ble_eq_true rfl) (k1 := (k + 1)) (z1 := (z + 6)) rfl rfl (by omega) (by omega) dL_law_254 (fun r13 u9 hw => ?_)
      obtain ⟨rfl, hw⟩ := hw
      refine r_iload E r9 rfl dL_law_257 ?_
      refine r_icmp_eq E 264 (by decide) dL_law_259 (fun c14 => ?_) (fun c14 => ?_)
      · have hw := ite_t hw c14
        refine r_iload E r9 rfl dL_law_264 ?_
        refine r_if_ne E 281 (by decide) dL_law_266 (fun c15 => ?_) (fun c15 => ?_)
        · have hw := ite_t hw c15
          refine r_aload_n E 75 0 rfl dL_law_269 ?_
          refine r_iconst E 0 rfl dL_law_270 ?_
          obtain ⟨i16, hw⟩ := hw
          refine r_lald E rfl rfl rfl (Nat.le_of_ble_eq_true rfl) (adr_lt (Nat.le_of_ble_eq_true rfl)) i16 dL_law_271 ?_
          refine r_iload E r11 rfl dL_law_272 ?_
          refine r_i2l E dL_law_274 ?_
          refine r_lcmp_eq E 281 (by decide) dL_law_275 dL_law_276 (fun c17 => ?_) (fun c17 => ?_)
          · have hw := ite_t hw c17
            exact GG_weak [true, true, true, true, true, true, false, false, false] rfl (t_L_law_b281 h12 x5 Ls xs bs hSX k z hkb hzb hc E hE P28 hP28  hw)
          · have hw := ite_f hw c17
            refine r_iconst E 0 rfl dL_law_279 ?_
            exact hE _ _ _ _ _ _ (by omega) (by omega) dL_law_280 (isB_nar isB_0) ⟨isB_0, hw⟩
        · have hw := ite_f hw c15
          exact GG_weak [true, true, true, true, true, true, false, false, false] rfl (t_L_law_b281 h12 x5 Ls xs bs hSX k z hkb hzb hc E hE P28 hP28  hw)
      · have hw := ite_f hw c14
        refine r_iconst E 0 rfl dL_law_262 ?_
        exact hE _ _ _ _ _ _ (by omega) (by omega) dL_law_263 (isB_nar isB_0) ⟨isB_0, hw⟩
    · have hw := ite_f hw c3
      rcases Decidable.em (((xs x5.toNatClampNeg) &&& 31) = 1) with c18 | c18
      · have hw := ite_t hw c18
        refine r_tableI E 1 c18 (off := 239) 284 dL_law_45 (by decide) (by decide) rfl (by decide) ?_
        refine r_aload_n E 10 0 rfl dL_law_284 ?_
        refine r_aloadS E rfl dL_law_285 ?_
        refine r_iload E x5 rfl dL_law_286 ?_
        refine r_iconst E 1 rfl dL_law_288 ?_
        refine r_iadd E dL_law_289 ?_
        obtain ⟨i19, hw⟩ := hw
        refine r_sld E hSX i19 dL_law_290 ?_
        refine r_aload_n E 75 0 rfl dL_law_291 ?_
        refine r_callW E (m_L_pass (EE_st E) (GX X) (xs (x5 + 1).toNatClampNeg) h _ hw) lk_L_118 lc_L_pass (RM_mk (Nat.le_of_ble_eq_true rfl) (Nat.le_of_ble_eq_true rfl)) rfl rfl rfl rfl (Nat.le_of_ble_eq_true rfl) (k1 := (k + 1)) (z1 := (z + 6)) rfl rfl (by omega) (by omega) dL_law_292 (fun r20 h21 hw => ?_)
        refine r_istore E [some (.ref bs), some (rf X 10 0), some (rf X 11 0), some (rf X 75 0), some (rf X 76 0), some (.int x5), some (.int r20), none, none] (Nat.le_of_ble_eq_true rfl) rfl dL_law_295 ?_
        refine r_aload_n E 11 0 rfl dL_law_297 ?_
        refine r_aloadS E rfl dL_law_298 ?_
        refine r_iload E x5 rfl dL_law_299 ?_
        refine r_iconst E 1 rfl dL_law_301 ?_
        refine r_iadd E dL_law_302 ?_
        refine r_sld E hSX i19 dL_law_303 ?_
        refine r_callVI E (m_X11_pass (EE_st E) (GX X) (xs (x5 + 1).toNatClampNeg) h21 _ hw) lk_L_121 (RM_mk (Nat.le_of_ble_eq_true rfl) (Nat.le_of_ble_eq_true rfl)) rfl rfl rfl rfl (Nat.le_of_ble_eq_true rfl) (adr_lt (Nat.le_of_ble_eq_true rfl)) (Nat.le_of_ble_eq_true rfl) (k1 := (k + 1)) (z1 := (z + 6)) rfl rfl (by omega) (by omega) dL_law_304 (fun r22 h23 hw => ?_)
        refine r_istore E [some (.ref bs), some (rf X 10 0), some (rf X 11 0), some (rf X 75 0), some (rf X 76 0), some (.int x5), some (.int r20), some (.int r22), none] (Nat.le_of_ble_eq_true rfl) rfl dL_law_307 ?_
        refine r_aload_n E 11 0 rfl dL_law_309 ?_
        refine r_callVI E (m_X11_thrown (EE_st E) (GX X)  h23 _ hw) lk_L_114 (RM_mk (Nat.le_of_ble_eq_true rfl) (Nat.le_of_ble_eq_true rfl)) rfl rfl rfl rfl (Nat.le_of_ble_eq_true rfl) (adr_lt (Nat.le_of_ble_eq_true rfl)) (Nat.le_of_ble_eq_true rfl) (k1 := (k + 1)) (z1 := (z + 6)) rfl rfl (by omega) (by omega) dL_law_310 (fun r24 u9 hw => ?_)
        obtain ⟨rfl, hw⟩ := hw
        refine r_iload E r20 rfl dL_law_313 ?_
        refine r_icmp_eq E 320 (by decide) dL_law_315 (fun c25 => ?_) (fun c25 => ?_)
        · have hw := ite_t hw c25
          refine r_iload E r20 rfl dL_law_320 ?_
          refine r_if_ne E 337 (by decide) dL_law_322 (fun c26 => ?_) (fun c26 => ?_)
          · have hw := ite_t hw c26
            refine r_aload_n E 75 0 rfl dL_law_325 ?_
            refine r_iconst E 0 rfl dL_law_326 ?_
            obtain ⟨i27, hw⟩ := hw
            refine r_lald E rfl rfl rfl (Nat.le_of_ble_eq_true rfl) (adr_lt (Nat.le_of_ble_eq_true rfl)) i27 dL_law_327 ?_
            refine r_iload E r22 rfl dL_law_328 ?_
            refine r_i2l E dL_law_330 ?_
            refine r_lcmp_eq E 337 (by decide) dL_law_331 dL_law_332 (fun c28 => ?_) (fun c28 => ?_)
            · have hw := ite_t hw c28
              exact GG_weak [true, true, true, true, true, true, false, false, false] rfl (t_L_law_b337 h23 x5 Ls xs bs hSX k z hkb hzb hc E hE P28 hP28  hw)
            · have hw := ite_f hw c28
              refine r_iconst E 0 rfl dL_law_335 ?_
              exact hE _ _ _ _ _ _ (by omega) (by omega) dL_law_336 (isB_nar isB_0) ⟨isB_0, hw⟩
          · have hw := ite_f hw c26
            exact GG_weak [true, true, true, true, true, true, false, false, false] rfl (t_L_law_b337 h23 x5 Ls xs bs hSX k z hkb hzb hc E hE P28 hP28  hw)
        · have hw := ite_f hw c25
          refine r_iconst E 0 rfl dL_law_318 ?_
          exact hE _ _ _ _ _ _ (by omega) (by omega) dL_law_319 (isB_nar isB_0) ⟨isB_0, hw⟩
      · have hw := ite_f hw c18
        rcases Decidable.em (((xs x5.toNatClampNeg) &&& 31) = 2) with c29 | c29
        · have hw := ite_t hw c29
          refine r_tableI E 2 c29 (off := 295) 340 dL_law_45 (by decide) (by decide) rfl (by decide) ?_
          refine r_aload_n E 10 0 rfl dL_law_340 ?_
          refine r_aloadS E rfl dL_law_341 ?_
          refine r_iload E x5 rfl dL_law_342 ?_
          refine r_iconst E 1 rfl dL_law_344 ?_
          refine r_iadd E dL_law_345 ?_
          obtain ⟨i30, hw⟩ := hw
          refine r_sld E hSX i30 dL_law_346 ?_
          refine r_aloadS E rfl dL_law_347 ?_
          refine r_iload E x5 rfl dL_law_348 ?_
          refine r_iconst E 2 rfl dL_law_350 ?_
          refine r_iadd E dL_law_351 ?_
          obtain ⟨i31, hw⟩ := hw
          refine r_sld E hSX i31 dL_law_352 ?_
          refine r_aload_n E 75 0 rfl dL_law_353 ?_
          refine r_callW E (m_L_setQuota (EE_st E) (GX X) (xs (x5 + 1).toNatClampNeg) (xs (x5 + 2).toNatClampNeg) h _ hw) lk_L_122 lc_L_setQuota (RM_mk (Nat.le_of_ble_eq_true rfl) (Nat.le_of_ble_eq_true rfl)) rfl rfl rfl rfl (Nat.le_of_ble_eq_true rfl) (k1 := (k + 1)) (z1 := (z + 6)) rfl rfl (by omega) (by omega) dL_law_354 (fun r32 h33 hw => ?_)
          refine r_istore E [some (.ref bs), some (rf X 10 0), some (rf X 11 0), some (rf X 75 0), some (rf X 76 0), some (.int x5), some (.int r32), none, none] (Nat.le_of_ble_eq_true rfl) rfl dL_law_357 ?_
          refine r_aload_n E 11 0 rfl dL_law_359 ?_
          refine r_aloadS E rfl dL_law_360 ?_
          refine r_iload E x5 rfl dL_law_361 ?_
          refine r_iconst E 1 rfl dL_law_363 ?_
          refine r_iadd E dL_law_364 ?_
          refine r_sld E hSX i30 dL_law_365 ?_
          refine r_aloadS E rfl dL_law_366 ?_
          refine r_iload E x5 rfl dL_law_367 ?_
          refine r_iconst E 2 rfl dL_law_369 ?_
          refine r_iadd E dL_law_370 ?_
          refine r_sld E hSX i31 dL_law_371 ?_
          refine r_callVI E (m_X11_setQuota (EE_st E) (GX X) (xs (x5 + 1).toNatClampNeg) (xs (x5 + 2).toNatClampNeg) h33 _ hw) lk_L_125 (RM_mk (Nat.le_of_ble_eq_true rfl) (Nat.le_of_ble_eq_true rfl)) rfl rfl rfl rfl (Nat.le_of_ble_eq_true rfl) (adr_lt (Nat.le_of_ble_eq_true rfl)) (Nat.le_of_ble_eq_true rfl) (k1 := (k + 1)) (z1 := (z + 6)) rfl rfl (by omega) (by omega) dL_law_372 (fun r34 h35 hw => ?_)
          refine r_istore E [some (.ref bs), some (rf X 10 0), some (rf X 11 0), some (rf X 75 0), some (rf X 76 0), some (.int x5), some (.int r32), some (.int r34), none] (Nat.le_of_ble_eq_true rfl) rfl dL_law_375 ?_
          refine r_aload_n E 11 0 rfl dL_law_377 ?_
          refine r_callVI E (m_X11_thrown (EE_st E) (GX X)  h35 _ hw) lk_L_114 (RM_mk (Nat.le_of_ble_eq_true rfl) (Nat.le_of_ble_eq_true rfl)) rfl rfl rfl rfl (Nat.le_of_ble_eq_true rfl) (adr_lt (Nat.le_of_ble_eq_true rfl)) (Nat.le_of_ble_eq_true rfl) (k1 := (k + 1)) (z1 := (z + 6)) rfl rfl (by omega) (by omega) dL_law_378 (fun r36 u9 hw => ?_)
          obtain ⟨rfl, hw⟩ := hw
          refine r_iload E r32 rfl dL_law_381 ?_
          refine r_icmp_eq E 388 (by decide) dL_law_383 (fun c37 => ?_) (fun c37 => ?_)
          · have hw := ite_t hw c37
            refine r_iload E r32 rfl dL_law_388 ?_
            refine r_if_ne E 405 (by decide) dL_law_390 (fun c38 => ?_) (fun c38 => ?_)
            · have hw := ite_t hw c38
              refine r_aload_n E 75 0 rfl dL_law_393 ?_
              refine r_iconst E 0 rfl dL_law_394 ?_
              obtain ⟨i39, hw⟩ := hw
              refine r_lald E rfl rfl rfl (Nat.le_of_ble_eq_true rfl) (adr_lt (Nat.le_of_ble_eq_true rfl)) i39 dL_law_395 ?_
              refine r_iload E r34 rfl dL_law_396 ?_
              refine r_i2l E dL_law_398 ?_
              refine r_lcmp_eq E 405 (by decide) dL_law_399 dL_law_400 (fun c40 => ?_) (fun c40 => ?_)
              · have hw := ite_t hw c40
                exact GG_weak [true, true, true, true, true, true, false, false, false] rfl (t_L_law_b405 h35 x5 Ls xs bs hSX k z hkb hzb hc E hE P28 hP28  hw)
              · have hw := ite_f hw c40
                refine r_iconst E 0 rfl dL_law_403 ?_
                exact hE _ _ _ _ _ _ (by omega) (by omega) dL_law_404 (isB_nar isB_0) ⟨isB_0, hw⟩
            · have hw := ite_f hw c38
              exact GG_weak [true, true, true, true, true, true, false, false, false] rfl (t_L_law_b405 h35 x5 Ls xs bs hSX k z hkb hzb hc E hE P28 hP28  hw)
          · have hw := ite_f hw c37
            refine r_iconst E 0 rfl dL_law_386 ?_
            exact hE _ _ _ _ _ _ (by omega) (by omega) dL_law_387 (isB_nar isB_0) ⟨isB_0, hw⟩
        · have hw := ite_f hw c29
          rcases Decidable.em (((xs x5.toNatClampNeg) &&& 31) = 3) with c41 | c41
          · have hw := ite_t hw c41
            refine r_tableI E 3 c41 (off := 363) 408 dL_law_45 (by decide) (by decide) rfl (by decide) ?_
            refine r_aload_n E 10 0 rfl dL_law_408 ?_
            refine r_aloadS E rfl dL_law_409 ?_
            refine r_iload E x5 rfl dL_law_410 ?_
            refine r_iconst E 1 rfl dL_law_412 ?_
            refine r_iadd E dL_law_413 ?_
            obtain ⟨i42, hw⟩ := hw
            refine r_sld E hSX i42 dL_law_414 ?_
            refine r_aload_n E 75 0 rfl dL_law_415 ?_
            refine r_callW E (m_L_inBox (EE_st E) (GX X) (xs (x5 + 1).toNatClampNeg) h _ hw) lk_L_126 lc_L_inBox (RM_mk (Nat.le_of_ble_eq_true rfl) (Nat.le_of_ble_eq_true rfl)) rfl rfl rfl rfl (Nat.le_of_ble_eq_true rfl) (k1 := (k + 1)) (z1 := (z + 6)) rfl rfl (by omega) (by omega) dL_law_416 (fun r43 h44 hw => ?_)
            refine r_istore E [some (.ref bs), some (rf X 10 0), some (rf X 11 0), some (rf X 75 0), some (rf X 76 0), some (.int x5), some (.int r43), none, none] (Nat.le_of_ble_eq_true rfl) rfl dL_law_419 ?_
            refine r_aload_n E 11 0 rfl dL_law_421 ?_
            refine r_aloadS E rfl dL_law_422 ?_
            refine r_iload E x5 rfl dL_law_423 ?_
            refine r_iconst E 1 rfl dL_law_425 ?_
            refine r_iadd E dL_law_426 ?_
            refine r_sld E hSX i42 dL_law_427 ?_
            refine r_callVI E (m_X11_inBox (EE_st E) (GX X) (xs (x5 + 1).toNatClampNeg) h44 _ hw) lk_L_128 (RM_mk (Nat.le_of_ble_eq_true rfl) (Nat.le_of_ble_eq_true rfl)) rfl rfl rfl rfl (Nat.le_of_ble_eq_true rfl) (adr_lt (Nat.le_of_ble_eq_true rfl)) (Nat.le_of_ble_eq_true rfl) (k1 := (k + 1)) (z1 := (z + 6)) rfl rfl (by omega) (by omega) dL_law_428 (fun r45 h46 hw => ?_)
            refine r_istore E [some (.ref bs), some (rf X 10 0), some (rf X 11 0), some (rf X 75 0), some (rf X 76 0), some (.int x5), some (.int r43), some (.int r45), none] (Nat.le_of_ble_eq_true rfl) rfl dL_law_431 ?_
            refine r_aload_n E 11 0 rfl dL_law_433 ?_
            refine r_callVI E (m_X11_thrown (EE_st E) (GX X)  h46 _ hw) lk_L_114 (RM_mk (Nat.le_of_ble_eq_true rfl) (Nat.le_of_ble_eq_true rfl)) rfl rfl rfl rfl (Nat.le_of_ble_eq_true rfl) (adr_lt (Nat.le_of_ble_eq_true rfl)) (Nat.le_of_ble_eq_true rfl) (k1 := (k + 1)) (z1 := (z + 6)) rfl rfl (by omega) (by omega) dL_law_434 (fun r47 u9 hw => ?_)
            obtain ⟨rfl, hw⟩ := hw
            refine r_iload E r43 rfl dL_law_437 ?_
            refine r_icmp_eq E 444 (by decide) dL_law_439 (fun c48 => ?_) (fun c48 => ?_)
            · have hw := ite_t hw c48
              refine r_iload E r43 rfl dL_law_444 ?_
              refine r_if_ne E 461 (by decide) dL_law_446 (fun c49 => ?_) (fun c49 => ?_)
              · have hw := ite_t hw c49
                refine r_aload_n E 75 0 rfl dL_law_449 ?_
                refine r_iconst E 0 rfl dL_law_450 ?_
                obtain ⟨i50, hw⟩ := hw
                refine r_lald E rfl rfl rfl (Nat.le_of_ble_eq_true rfl) (adr_lt (Nat.le_of_ble_eq_true rfl)) i50 dL_law_451 ?_
                refine r_iload E r45 rfl dL_law_452 ?_
                refine r_i2l E dL_law_454 ?_
                refine r_lcmp_eq E 461 (by decide) dL_law_455 dL_law_456 (fun c51 => ?_) (fun c51 => ?_)
                · have hw := ite_t hw c51
                  exact GG_weak [true, true, true, true, true, true, false, false, false] rfl (t_L_law_b461 h46 x5 Ls xs bs hSX k z hkb hzb hc E hE P28 hP28  hw)
                · have hw := ite_f hw c51
                  refine r_iconst E 0 rfl dL_law_459 ?_
                  exact hE _ _ _ _ _ _ (by omega) (by omega) dL_law_460 (isB_nar isB_0) ⟨isB_0, hw⟩
              · have hw := ite_f hw c49
                exact GG_weak [true, true, true, true, true, true, false, false, false] rfl (t_L_law_b461 h46 x5 Ls xs bs hSX k z hkb hzb hc E hE P28 hP28  hw)
            · have hw := ite_f hw c48
              refine r_iconst E 0 rfl dL_law_442 ?_
              exact hE _ _ _ _ _ _ (by omega) (by omega) dL_law_443 (isB_nar isB_0) ⟨isB_0, hw⟩
          · have hw := ite_f hw c41
            rcases Decidable.em (((xs x5.toNatClampNeg) &&& 31) = 4) with c52 | c52
            · have hw := ite_t hw c52
              refine r_tableI E 4 c52 (off := 419) 464 dL_law_45 (by decide) (by decide) rfl (by decide) ?_
              refine r_aload_n E 10 0 rfl dL_law_464 ?_
              refine r_aloadS E rfl dL_law_465 ?_
              refine r_iload E x5 rfl dL_law_466 ?_
              refine r_iconst E 1 rfl dL_law_468 ?_
              refine r_iadd E dL_law_469 ?_
              obtain ⟨i53, hw⟩ := hw
              refine r_sld E hSX i53 dL_law_470 ?_
              refine r_aload_n E 75 0 rfl dL_law_471 ?_
              refine r_callW E (m_L_boxOf (EE_st E) (GX X) (xs (x5 + 1).toNatClampNeg) h _ hw) lk_L_129 lc_L_boxOf (RM_mk (Nat.le_of_ble_eq_true rfl) (Nat.le_of_ble_eq_true rfl)) rfl rfl rfl rfl (Nat.le_of_ble_eq_true rfl) (k1 := (k + 2)) (z1 := (z + 12)) rfl rfl (by omega) (by omega) dL_law_472 (fun r54 h55 hw => ?_)
              refine r_istore E [some (.ref bs), some (rf X 10 0), some (rf X 11 0), some (rf X 75 0), some (rf X 76 0), some (.int x5), some (.int r54), none, none] (Nat.le_of_ble_eq_true rfl) rfl dL_law_475 ?_
              refine r_aload_n E 11 0 rfl dL_law_477 ?_
              refine r_aloadS E rfl dL_law_478 ?_
              refine r_iload E x5 rfl dL_law_479 ?_
              refine r_iconst E 1 rfl dL_law_481 ?_
              refine r_iadd E dL_law_482 ?_
              refine r_sld E hSX i53 dL_law_483 ?_
              refine r_callVI E (m_X11_boxOf (EE_st E) (GX X) (xs (x5 + 1).toNatClampNeg) h55 _ hw) lk_L_131 (RM_mk (Nat.le_of_ble_eq_true rfl) (Nat.le_of_ble_eq_true rfl)) rfl rfl rfl rfl (Nat.le_of_ble_eq_true rfl) (adr_lt (Nat.le_of_ble_eq_true rfl)) (Nat.le_of_ble_eq_true rfl) (k1 := (k + 2)) (z1 := (z + 12)) rfl rfl (by omega) (by omega) dL_law_484 (fun r56 h57 hw => ?_)
              refine r_istore E [some (.ref bs), some (rf X 10 0), some (rf X 11 0), some (rf X 75 0), some (rf X 76 0), some (.int x5), some (.int r54), some (.int r56), none] (Nat.le_of_ble_eq_true rfl) rfl dL_law_487 ?_
              refine r_aload_n E 11 0 rfl dL_law_489 ?_
              refine r_callVI E (m_X11_thrown (EE_st E) (GX X)  h57 _ hw) lk_L_114 (RM_mk (Nat.le_of_ble_eq_true rfl) (Nat.le_of_ble_eq_true rfl)) rfl rfl rfl rfl (Nat.le_of_ble_eq_true rfl) (adr_lt (Nat.le_of_ble_eq_true rfl)) (Nat.le_of_ble_eq_true rfl) (k1 := (k + 2)) (z1 := (z + 12)) rfl rfl (by omega) (by omega) dL_law_490 (fun r58 u9 hw => ?_)
              obtain ⟨rfl, hw⟩ := hw
              refine r_iload E r54 rfl dL_law_493 ?_
              refine r_icmp_eq E 500 (by decide) dL_law_495 (fun c59 => ?_) (fun c59 => ?_)
              · have hw := ite_t hw c59
                refine r_iload E r54 rfl dL_law_500 ?_
                refine r_if_ne E 517 (by decide) dL_law_502 (fun c60 => ?_) (fun c60 => ?_)
                · have hw := ite_t hw c60
                  refine r_aload_n E 75 0 rfl dL_law_505 ?_
                  refine r_iconst E 0 rfl dL_law_506 ?_
                  obtain ⟨i61, hw⟩ := hw
                  refine r_lald E rfl rfl rfl (Nat.le_of_ble_eq_true rfl) (adr_lt (Nat.le_of_ble_eq_true rfl)) i61 dL_law_507 ?_
                  refine r_iload E r56 rfl dL_law_508 ?_
                  refine r_i2l E dL_law_510 ?_
                  refine r_lcmp_eq E 517 (by decide) dL_law_511 dL_law_512 (fun c62 => ?_) (fun c62 => ?_)
                  · have hw := ite_t hw c62
                    exact GG_weak [true, true, true, true, true, true, false, false, false] rfl (t_L_law_b517 h57 x5 Ls xs bs hSX k z hkb hzb hc E hE P28 hP28  hw)
                  · have hw := ite_f hw c62
                    refine r_iconst E 0 rfl dL_law_515 ?_
                    exact hE _ _ _ _ _ _ (by omega) (by omega) dL_law_516 (isB_nar isB_0) ⟨isB_0, hw⟩
                · have hw := ite_f hw c60
                  exact GG_weak [true, true, true, true, true, true, false, false, false] rfl (t_L_law_b517 h57 x5 Ls xs bs hSX k z hkb hzb hc E hE P28 hP28  hw)
              · have hw := ite_f hw c59
                refine r_iconst E 0 rfl dL_law_498 ?_
                exact hE _ _ _ _ _ _ (by omega) (by omega) dL_law_499 (isB_nar isB_0) ⟨isB_0, hw⟩
            · have hw := ite_f hw c52
              rcases Decidable.em (((xs x5.toNatClampNeg) &&& 31) = 5) with c63 | c63
              · have hw := ite_t hw c63
                refine r_tableI E 5 c63 (off := 475) 520 dL_law_45 (by decide) (by decide) rfl (by decide) ?_
                refine r_aload_n E 10 0 rfl dL_law_520 ?_
                refine r_aloadS E rfl dL_law_521 ?_
                refine r_iload E x5 rfl dL_law_522 ?_
                refine r_iconst E 1 rfl dL_law_524 ?_
                refine r_iadd E dL_law_525 ?_
                obtain ⟨i64, hw⟩ := hw
                refine r_sld E hSX i64 dL_law_526 ?_
                refine r_aloadS E rfl dL_law_527 ?_
                refine r_iload E x5 rfl dL_law_528 ?_
                refine r_iconst E 2 rfl dL_law_530 ?_
                refine r_iadd E dL_law_531 ?_
                obtain ⟨i65, hw⟩ := hw
                refine r_sld E hSX i65 dL_law_532 ?_
                refine r_aload_n E 75 0 rfl dL_law_533 ?_
                refine r_callW E (m_L_hasFlag (EE_st E) (GX X) (xs (x5 + 1).toNatClampNeg) (xs (x5 + 2).toNatClampNeg) h _ hw) lk_L_132 lc_L_hasFlag (RM_mk (Nat.le_of_ble_eq_true rfl) (Nat.le_of_ble_eq_true rfl)) rfl rfl rfl rfl (Nat.le_of_ble_eq_true rfl) (k1 := (k + 2)) (z1 := (z + 12)) rfl rfl (by omega) (by omega) dL_law_534 (fun r66 h67 hw => ?_)
                refine r_istore E [some (.ref bs), some (rf X 10 0), some (rf X 11 0), some (rf X 75 0), some (rf X 76 0), some (.int x5), some (.int r66), none, none] (Nat.le_of_ble_eq_true rfl) rfl dL_law_537 ?_
                refine r_aload_n E 11 0 rfl dL_law_539 ?_
                refine r_aloadS E rfl dL_law_540 ?_
                refine r_iload E x5 rfl dL_law_541 ?_
                refine r_iconst E 1 rfl dL_law_543 ?_
                refine r_iadd E dL_law_544 ?_
                refine r_sld E hSX i64 dL_law_545 ?_
                refine r_aloadS E rfl dL_law_546 ?_
                refine r_iload E x5 rfl dL_law_547 ?_
                refine r_iconst E 2 rfl dL_law_549 ?_
                refine r_iadd E dL_law_550 ?_
                refine r_sld E hSX i65 dL_law_551 ?_
                refine r_callVI E (m_X11_hasFlag (EE_st E) (GX X) (xs (x5 + 1).toNatClampNeg) (xs (x5 + 2).toNatClampNeg) h67 _ hw) lk_L_134 (RM_mk (Nat.le_of_ble_eq_true rfl) (Nat.le_of_ble_eq_true rfl)) rfl rfl rfl rfl (Nat.le_of_ble_eq_true rfl) (adr_lt (Nat.le_of_ble_eq_true rfl)) (Nat.le_of_ble_eq_true rfl) (k1 := (k + 2)) (z1 := (z + 12)) rfl rfl (by omega) (by omega) dL_law_552 (fun r68 h69 hw => ?_)
                obtain ⟨zr68, hw⟩ := hw
                refine r_istore E [some (.ref bs), some (rf X 10 0), some (rf X 11 0), some (rf X 75 0), some (rf X 76 0), some (.int x5), some (.int r66), some (.int r68), none] (Nat.le_of_ble_eq_true rfl) rfl dL_law_555 ?_
                refine r_aload_n E 11 0 rfl dL_law_557 ?_
                refine r_callVI E (m_X11_thrown (EE_st E) (GX X)  h69 _ hw) lk_L_114 (RM_mk (Nat.le_of_ble_eq_true rfl) (Nat.le_of_ble_eq_true rfl)) rfl rfl rfl rfl (Nat.le_of_ble_eq_true rfl) (adr_lt (Nat.le_of_ble_eq_true rfl)) (Nat.le_of_ble_eq_true rfl) (k1 := (k + 2)) (z1 := (z + 12)) rfl rfl (by omega) (by omega) dL_law_558 (fun r70 u9 hw => ?_)
                obtain ⟨rfl, hw⟩ := hw
                refine r_iload E r66 rfl dL_law_561 ?_
                refine r_icmp_eq E 568 (by decide) dL_law_563 (fun c71 => ?_) (fun c71 => ?_)
                · have hw := ite_t hw c71
                  refine r_iload E r66 rfl dL_law_568 ?_
                  refine r_if_ne E 592 (by decide) dL_law_570 (fun c72 => ?_) (fun c72 => ?_)
                  · have hw := ite_t hw c72
                    refine r_aload_n E 75 0 rfl dL_law_573 ?_
                    refine r_iconst E 0 rfl dL_law_574 ?_
                    obtain ⟨i73, hw⟩ := hw
                    refine r_lald E rfl rfl rfl (Nat.le_of_ble_eq_true rfl) (adr_lt (Nat.le_of_ble_eq_true rfl)) i73 dL_law_575 ?_
                    refine r_iload E r68 rfl dL_law_576 ?_
                    refine r_if_eq E 585 (by decide) dL_law_578 (fun c74 => ?_) (fun c74 => ?_)
                    · have hw := ite_t hw c74
                      refine r_lconst E 0 rfl dL_law_585 ?_
                      exact GG_weak [true, true, true, true, true, true, false, false, false] rfl (t_L_law_b586 h69 x5 (gJ h69 75 0 (0 : Int32).toNatClampNeg) 0 Ls xs bs hSX k z hkb hzb hc E hE P28 hP28  hw)
                    · have hw := ite_f hw c74
                      refine r_lconst E 1 rfl dL_law_581 ?_
                      refine r_goto E 586 (by decide) dL_law_582 ?_
                      exact GG_weak [true, true, true, true, true, true, false, false, false] rfl (t_L_law_b586 h69 x5 (gJ h69 75 0 (0 : Int32).toNatClampNeg) 1 Ls xs bs hSX k z hkb hzb hc E hE P28 hP28  hw)
                  · have hw := ite_f hw c72
                    exact GG_weak [true, true, true, true, true, true, false, false, false] rfl (t_L_law_b592 h69 x5 Ls xs bs hSX k z hkb hzb hc E hE P28 hP28  hw)
                · have hw := ite_f hw c71
                  refine r_iconst E 0 rfl dL_law_566 ?_
                  exact hE _ _ _ _ _ _ (by omega) (by omega) dL_law_567 (isB_nar isB_0) ⟨isB_0, hw⟩
              · have hw := ite_f hw c63
                rcases Decidable.em (((xs x5.toNatClampNeg) &&& 31) = 6) with c75 | c75
                · have hw := ite_t hw c75
                  refine r_tableI E 6 c75 (off := 550) 595 dL_law_45 (by decide) (by decide) rfl (by decide) ?_
                  refine r_aload_n E 10 0 rfl dL_law_595 ?_
                  refine r_aloadS E rfl dL_law_596 ?_
                  refine r_iload E x5 rfl dL_law_597 ?_
                  refine r_iconst E 1 rfl dL_law_599 ?_
                  refine r_iadd E dL_law_600 ?_
                  obtain ⟨i76, hw⟩ := hw
                  refine r_sld E hSX i76 dL_law_601 ?_
                  refine r_aloadS E rfl dL_law_602 ?_
                  refine r_iload E x5 rfl dL_law_603 ?_
                  refine r_iconst E 2 rfl dL_law_605 ?_
                  refine r_iadd E dL_law_606 ?_
                  obtain ⟨i77, hw⟩ := hw
                  refine r_sld E hSX i77 dL_law_607 ?_
                  refine r_aload_n E 75 0 rfl dL_law_608 ?_
                  refine r_callW E (m_L_move (EE_st E) (GX X) (xs (x5 + 1).toNatClampNeg) (xs (x5 + 2).toNatClampNeg) h _ hw) lk_L_135 lc_L_move (RM_mk (Nat.le_of_ble_eq_true rfl) (Nat.le_of_ble_eq_true rfl)) rfl rfl rfl rfl (Nat.le_of_ble_eq_true rfl) (k1 := (k + 3)) (z1 := (z + 18)) rfl rfl (by omega) (by omega) dL_law_609 (fun r78 h79 hw => ?_)
                  refine r_istore E [some (.ref bs), some (rf X 10 0), some (rf X 11 0), some (rf X 75 0), some (rf X 76 0), some (.int x5), some (.int r78), none, none] (Nat.le_of_ble_eq_true rfl) rfl dL_law_612 ?_
                  refine r_aload_n E 11 0 rfl dL_law_614 ?_
                  refine r_aloadS E rfl dL_law_615 ?_
                  refine r_iload E x5 rfl dL_law_616 ?_
                  refine r_iconst E 1 rfl dL_law_618 ?_
                  refine r_iadd E dL_law_619 ?_
                  refine r_sld E hSX i76 dL_law_620 ?_
                  refine r_aloadS E rfl dL_law_621 ?_
                  refine r_iload E x5 rfl dL_law_622 ?_
                  refine r_iconst E 2 rfl dL_law_624 ?_
                  refine r_iadd E dL_law_625 ?_
                  refine r_sld E hSX i77 dL_law_626 ?_
                  refine r_callVI E (m_X11_move (EE_st E) (GX X) (xs (x5 + 1).toNatClampNeg) (xs (x5 + 2).toNatClampNeg) h79 _ hw) lk_L_137 (RM_mk (Nat.le_of_ble_eq_true rfl) (Nat.le_of_ble_eq_true rfl)) rfl rfl rfl rfl (Nat.le_of_ble_eq_true rfl) (adr_lt (Nat.le_of_ble_eq_true rfl)) (Nat.le_of_ble_eq_true rfl) (k1 := (k + 3)) (z1 := (z + 18)) rfl rfl (by omega) (by omega) dL_law_627 (fun r80 h81 hw => ?_)
                  refine r_istore E [some (.ref bs), some (rf X 10 0), some (rf X 11 0), some (rf X 75 0), some (rf X 76 0), some (.int x5), some (.int r78), some (.int r80), none] (Nat.le_of_ble_eq_true rfl) rfl dL_law_630 ?_
                  refine r_aload_n E 11 0 rfl dL_law_632 ?_
                  refine r_callVI E (m_X11_thrown (EE_st E) (GX X)  h81 _ hw) lk_L_114 (RM_mk (Nat.le_of_ble_eq_true rfl) (Nat.le_of_ble_eq_true rfl)) rfl rfl rfl rfl (Nat.le_of_ble_eq_true rfl) (adr_lt (Nat.le_of_ble_eq_true rfl)) (Nat.le_of_ble_eq_true rfl) (k1 := (k + 3)) (z1 := (z + 18)) rfl rfl (by omega) (by omega) dL_law_633 (fun r82 u9 hw => ?_)
                  obtain ⟨rfl, hw⟩ := hw
                  refine r_iload E r78 rfl dL_law_636 ?_
                  refine r_icmp_eq E 643 (by decide) dL_law_638 (fun c83 => ?_) (fun c83 => ?_)
                  · have hw := ite_t hw c83
                    refine r_iload E r78 rfl dL_law_643 ?_
                    refine r_if_ne E 660 (by decide) dL_law_645 (fun c84 => ?_) (fun c84 => ?_)
                    · have hw := ite_t hw c84
                      refine r_aload_n E 75 0 rfl dL_law_648 ?_
                      refine r_iconst E 0 rfl dL_law_649 ?_
                      obtain ⟨i85, hw⟩ := hw
                      refine r_lald E rfl rfl rfl (Nat.le_of_ble_eq_true rfl) (adr_lt (Nat.le_of_ble_eq_true rfl)) i85 dL_law_650 ?_
                      refine r_iload E r80 rfl dL_law_651 ?_
                      refine r_i2l E dL_law_653 ?_
                      refine r_lcmp_eq E 660 (by decide) dL_law_654 dL_law_655 (fun c86 => ?_) (fun c86 => ?_)
                      · have hw := ite_t hw c86
                        exact GG_weak [true, true, true, true, true, true, false, false, false] rfl (t_L_law_b660 h81 x5 Ls xs bs hSX k z hkb hzb hc E hE P28 hP28  hw)
                      · have hw := ite_f hw c86
                        refine r_iconst E 0 rfl dL_law_658 ?_
                        exact hE _ _ _ _ _ _ (by omega) (by omega) dL_law_659 (isB_nar isB_0) ⟨isB_0, hw⟩
                    · have hw := ite_f hw c84
                      exact GG_weak [true, true, true, true, true, true, false, false, false] rfl (t_L_law_b660 h81 x5 Ls xs bs hSX k z hkb hzb hc E hE P28 hP28  hw)
                  · have hw := ite_f hw c83
                    refine r_iconst E 0 rfl dL_law_641 ?_
                    exact hE _ _ _ _ _ _ (by omega) (by omega) dL_law_642 (isB_nar isB_0) ⟨isB_0, hw⟩
                · have hw := ite_f hw c75
                  rcases Decidable.em (((xs x5.toNatClampNeg) &&& 31) = 7) with c87 | c87
                  · have hw := ite_t hw c87
                    refine r_tableI E 7 c87 (off := 618) 663 dL_law_45 (by decide) (by decide) rfl (by decide) ?_
                    refine r_aload_n E 10 0 rfl dL_law_663 ?_
                    refine r_aloadS E rfl dL_law_664 ?_
                    refine r_iload E x5 rfl dL_law_665 ?_
                    refine r_iconst E 1 rfl dL_law_667 ?_
                    refine r_iadd E dL_law_668 ?_
                    obtain ⟨i88, hw⟩ := hw
                    refine r_sld E hSX i88 dL_law_669 ?_
                    refine r_i2c E dL_law_670 ?_
                    refine r_aloadS E rfl dL_law_671 ?_
                    refine r_iload E x5 rfl dL_law_672 ?_
                    refine r_iconst E 2 rfl dL_law_674 ?_
                    refine r_iadd E dL_law_675 ?_
                    obtain ⟨i89, hw⟩ := hw
                    refine r_sld E hSX i89 dL_law_676 ?_
                    refine r_aloadS E rfl dL_law_677 ?_
                    refine r_iload E x5 rfl dL_law_678 ?_
                    refine r_iconst E 3 rfl dL_law_680 ?_
                    refine r_iadd E dL_law_681 ?_
                    obtain ⟨i90, hw⟩ := hw
                    refine r_sld E hSX i90 dL_law_682 ?_
                    refine r_aload_n E 75 0 rfl dL_law_683 ?_
                    refine r_callW E (m_L_test (EE_st E) (GX X) (((xs (x5 + 1).toNatClampNeg).toUInt32 % 65536).toInt32) (xs (x5 + 2).toNatClampNeg) (xs (x5 + 3).toNatClampNeg) h _ hw) lk_L_138 lc_L_test (RM_mk (Nat.le_of_ble_eq_true rfl) (Nat.le_of_ble_eq_true rfl)) rfl rfl rfl rfl (Nat.le_of_ble_eq_true rfl) (k1 := (k + 3)) (z1 := (z + 18)) rfl rfl (by omega) (by omega) dL_law_684 (fun r91 h92 hw => ?_)
                    refine r_istore E [some (.ref bs), some (rf X 10 0), some (rf X 11 0), some (rf X 75 0), some (rf X 76 0), some (.int x5), some (.int r91), none, none] (Nat.le_of_ble_eq_true rfl) rfl dL_law_687 ?_
                    refine r_aload_n E 11 0 rfl dL_law_689 ?_
                    refine r_aloadS E rfl dL_law_690 ?_
                    refine r_iload E x5 rfl dL_law_691 ?_
                    refine r_iconst E 1 rfl dL_law_693 ?_
                    refine r_iadd E dL_law_694 ?_
                    refine r_sld E hSX i88 dL_law_695 ?_
                    refine r_i2c E dL_law_696 ?_
                    refine r_aloadS E rfl dL_law_697 ?_
                    refine r_iload E x5 rfl dL_law_698 ?_
                    refine r_iconst E 2 rfl dL_law_700 ?_
                    refine r_iadd E dL_law_701 ?_
                    refine r_sld E hSX i89 dL_law_702 ?_
                    refine r_aloadS E rfl dL_law_703 ?_
                    refine r_iload E x5 rfl dL_law_704 ?_
                    refine r_iconst E 3 rfl dL_law_706 ?_
                    refine r_iadd E dL_law_707 ?_
                    refine r_sld E hSX i90 dL_law_708 ?_
                    refine r_callVI E (m_X11_test (EE_st E) (GX X) (((xs (x5 + 1).toNatClampNeg).toUInt32 % 65536).toInt32) (xs (x5 + 2).toNatClampNeg) (xs (x5 + 3).toNatClampNeg) h92 _ hw) lk_L_141 (RM_mk (Nat.le_of_ble_eq_true rfl) (Nat.le_of_ble_eq_true rfl)) rfl rfl rfl rfl (Nat.le_of_ble_eq_true rfl) (adr_lt (Nat.le_of_ble_eq_true rfl)) (Nat.le_of_ble_eq_true rfl) (k1 := (k + 3)) (z1 := (z + 18)) rfl rfl (by omega) (by omega) dL_law_709 (fun r93 h94 hw => ?_)
                    refine r_istore E [some (.ref bs), some (rf X 10 0), some (rf X 11 0), some (rf X 75 0), some (rf X 76 0), some (.int x5), some (.int r91), some (.int r93), none] (Nat.le_of_ble_eq_true rfl) rfl dL_law_712 ?_
                    refine r_aload_n E 11 0 rfl dL_law_714 ?_
                    refine r_callVI E (m_X11_thrown (EE_st E) (GX X)  h94 _ hw) lk_L_114 (RM_mk (Nat.le_of_ble_eq_true rfl) (Nat.le_of_ble_eq_true rfl)) rfl rfl rfl rfl (Nat.le_of_ble_eq_true rfl) (adr_lt (Nat.le_of_ble_eq_true rfl)) (Nat.le_of_ble_eq_true rfl) (k1 := (k + 3)) (z1 := (z + 18)) rfl rfl (by omega) (by omega) dL_law_715 (fun r95 u9 hw => ?_)
                    obtain ⟨rfl, hw⟩ := hw
                    refine r_iload E r91 rfl dL_law_718 ?_
                    refine r_icmp_eq E 725 (by decide) dL_law_720 (fun c96 => ?_) (fun c96 => ?_)
                    · have hw := ite_t hw c96
                      refine r_iload E r91 rfl dL_law_725 ?_
                      refine r_if_ne E 742 (by decide) dL_law_727 (fun c97 => ?_) (fun c97 => ?_)
                      · have hw := ite_t hw c97
                        refine r_aload_n E 75 0 rfl dL_law_730 ?_
                        refine r_iconst E 0 rfl dL_law_731 ?_
                        obtain ⟨i98, hw⟩ := hw
                        refine r_lald E rfl rfl rfl (Nat.le_of_ble_eq_true rfl) (adr_lt (Nat.le_of_ble_eq_true rfl)) i98 dL_law_732 ?_
                        refine r_iload E r93 rfl dL_law_733 ?_
                        refine r_i2l E dL_law_735 ?_
                        refine r_lcmp_eq E 742 (by decide) dL_law_736 dL_law_737 (fun c99 => ?_) (fun c99 => ?_)
                        · have hw := ite_t hw c99
                          exact GG_weak [true, true, true, true, true, true, false, false, false] rfl (t_L_law_b742 h94 x5 Ls xs bs hSX k z hkb hzb hc E hE P28 hP28  hw)
                        · have hw := ite_f hw c99
                          refine r_iconst E 0 rfl dL_law_740 ?_
                          exact hE _ _ _ _ _ _ (by omega) (by omega) dL_law_741 (isB_nar isB_0) ⟨isB_0, hw⟩
                      · have hw := ite_f hw c97
                        exact GG_weak [true, true, true, true, true, true, false, false, false] rfl (t_L_law_b742 h94 x5 Ls xs bs hSX k z hkb hzb hc E hE P28 hP28  hw)
                    · have hw := ite_f hw c96
                      refine r_iconst E 0 rfl dL_law_723 ?_
                      exact hE _ _ _ _ _ _ (by omega) (by omega) dL_law_724 (isB_nar isB_0) ⟨isB_0, hw⟩
                  · have hw := ite_f hw c87
                    rcases Decidable.em (((xs x5.toNatClampNeg) &&& 31) = 8) with c100 | c100
                    · have hw := ite_t hw c100
                      refine r_tableI E 8 c100 (off := 700) 745 dL_law_45 (by decide) (by decide) rfl (by decide) ?_
                      refine r_aload_n E 10 0 rfl dL_law_745 ?_
                      refine r_aloadS E rfl dL_law_746 ?_
                      refine r_iload E x5 rfl dL_law_747 ?_
                      refine r_iconst E 1 rfl dL_law_749 ?_
                      refine r_iadd E dL_law_750 ?_
                      obtain ⟨i101, hw⟩ := hw
                      refine r_sld E hSX i101 dL_law_751 ?_
                      refine r_aloadS E rfl dL_law_752 ?_
                      refine r_iload E x5 rfl dL_law_753 ?_
                      refine r_iconst E 2 rfl dL_law_755 ?_
                      refine r_iadd E dL_law_756 ?_
                      obtain ⟨i102, hw⟩ := hw
                      refine r_sld E hSX i102 dL_law_757 ?_
                      refine r_aload_n E 75 0 rfl dL_law_758 ?_
                      refine r_callW E (m_L_holds (EE_st E) (GX X) (xs (x5 + 1).toNatClampNeg) (xs (x5 + 2).toNatClampNeg) h _ hw) lk_L_142 lc_L_holds (RM_mk (Nat.le_of_ble_eq_true rfl) (Nat.le_of_ble_eq_true rfl)) rfl rfl rfl rfl (Nat.le_of_ble_eq_true rfl) (k1 := (k + 2)) (z1 := (z + 12)) rfl rfl (by omega) (by omega) dL_law_759 (fun r103 h104 hw => ?_)
                      refine r_istore E [some (.ref bs), some (rf X 10 0), some (rf X 11 0), some (rf X 75 0), some (rf X 76 0), some (.int x5), some (.int r103), none, none] (Nat.le_of_ble_eq_true rfl) rfl dL_law_762 ?_
                      refine r_aload_n E 11 0 rfl dL_law_764 ?_
                      refine r_aloadS E rfl dL_law_765 ?_
                      refine r_iload E x5 rfl dL_law_766 ?_
                      refine r_iconst E 1 rfl dL_law_768 ?_
                      refine r_iadd E dL_law_769 ?_
                      refine r_sld E hSX i101 dL_law_770 ?_
                      refine r_aloadS E rfl dL_law_771 ?_
                      refine r_iload E x5 rfl dL_law_772 ?_
                      refine r_iconst E 2 rfl dL_law_774 ?_
                      refine r_iadd E dL_law_775 ?_
                      refine r_sld E hSX i102 dL_law_776 ?_
                      refine r_callVI E (m_X11_holds (EE_st E) (GX X) (xs (x5 + 1).toNatClampNeg) (xs (x5 + 2).toNatClampNeg) h104 _ hw) lk_L_144 (RM_mk (Nat.le_of_ble_eq_true rfl) (Nat.le_of_ble_eq_true rfl)) rfl rfl rfl rfl (Nat.le_of_ble_eq_true rfl) (adr_lt (Nat.le_of_ble_eq_true rfl)) (Nat.le_of_ble_eq_true rfl) (k1 := (k + 2)) (z1 := (z + 12)) rfl rfl (by omega) (by omega) dL_law_777 (fun r105 h106 hw => ?_)
                      obtain ⟨zr105, hw⟩ := hw
                      refine r_istore E [some (.ref bs), some (rf X 10 0), some (rf X 11 0), some (rf X 75 0), some (rf X 76 0), some (.int x5), some (.int r103), some (.int r105), none] (Nat.le_of_ble_eq_true rfl) rfl dL_law_780 ?_
                      refine r_aload_n E 11 0 rfl dL_law_782 ?_
                      refine r_callVI E (m_X11_thrown (EE_st E) (GX X)  h106 _ hw) lk_L_114 (RM_mk (Nat.le_of_ble_eq_true rfl) (Nat.le_of_ble_eq_true rfl)) rfl rfl rfl rfl (Nat.le_of_ble_eq_true rfl) (adr_lt (Nat.le_of_ble_eq_true rfl)) (Nat.le_of_ble_eq_true rfl) (k1 := (k + 2)) (z1 := (z + 12)) rfl rfl (by omega) (by omega) dL_law_783 (fun r107 u9 hw => ?_)
                      obtain ⟨rfl, hw⟩ := hw
                      refine r_iload E r103 rfl dL_law_786 ?_
                      refine r_icmp_eq E 793 (by decide) dL_law_788 (fun c108 => ?_) (fun c108 => ?_)
                      · have hw := ite_t hw c108
                        refine r_iload E r103 rfl dL_law_793 ?_
                        refine r_if_ne E 817 (by decide) dL_law_795 (fun c109 => ?_) (fun c109 => ?_)
                        · have hw := ite_t hw c109
                          refine r_aload_n E 75 0 rfl dL_law_798 ?_
                          refine r_iconst E 0 rfl dL_law_799 ?_
                          obtain ⟨i110, hw⟩ := hw
                          refine r_lald E rfl rfl rfl (Nat.le_of_ble_eq_true rfl) (adr_lt (Nat.le_of_ble_eq_true rfl)) i110 dL_law_800 ?_
                          refine r_iload E r105 rfl dL_law_801 ?_
                          refine r_if_eq E 810 (by decide) dL_law_803 (fun c111 => ?_) (fun c111 => ?_)
                          · have hw := ite_t hw c111
                            refine r_lconst E 0 rfl dL_law_810 ?_
                            exact GG_weak [true, true, true, true, true, true, false, false, false] rfl (t_L_law_b811 h106 x5 (gJ h106 75 0 (0 : Int32).toNatClampNeg) 0 Ls xs bs hSX k z hkb hzb hc E hE P28 hP28  hw)
                          · have hw := ite_f hw c111
                            refine r_lconst E 1 rfl dL_law_806 ?_
                            refine r_goto E 811 (by decide) dL_law_807 ?_
                            exact GG_weak [true, true, true, true, true, true, false, false, false] rfl (t_L_law_b811 h106 x5 (gJ h106 75 0 (0 : Int32).toNatClampNeg) 1 Ls xs bs hSX k z hkb hzb hc E hE P28 hP28  hw)
                        · have hw := ite_f hw c109
                          exact GG_weak [true, true, true, true, true, true, false, false, false] rfl (t_L_law_b817 h106 x5 Ls xs bs hSX k z hkb hzb hc E hE P28 hP28  hw)
                      · have hw := ite_f hw c108
                        refine r_iconst E 0 rfl dL_law_791 ?_
                        exact hE _ _ _ _ _ _ (by omega) (by omega) dL_law_792 (isB_nar isB_0) ⟨isB_0, hw⟩
                    · have hw := ite_f hw c100
                      rcases Decidable.em (((xs x5.toNatClampNeg) &&& 31) = 9) with c112 | c112
                      · have hw := ite_t hw c112
                        refine r_tableI E 9 c112 (off := 775) 820 dL_law_45 (by decide) (by decide) rfl (by decide) ?_
                        refine r_aload_n E 10 0 rfl dL_law_820 ?_
                        refine r_aloadS E rfl dL_law_821 ?_
                        refine r_iload E x5 rfl dL_law_822 ?_
                        refine r_iconst E 1 rfl dL_law_824 ?_
                        refine r_iadd E dL_law_825 ?_
                        obtain ⟨i113, hw⟩ := hw
                        refine r_sld E hSX i113 dL_law_826 ?_
                        refine r_aloadS E rfl dL_law_827 ?_
                        refine r_iload E x5 rfl dL_law_828 ?_
                        refine r_iconst E 2 rfl dL_law_830 ?_
                        refine r_iadd E dL_law_831 ?_
                        obtain ⟨i114, hw⟩ := hw
                        refine r_sld E hSX i114 dL_law_832 ?_
                        refine r_aload_n E 75 0 rfl dL_law_833 ?_
                        refine r_callW E (m_L_rule (EE_st E) (GX X) (xs (x5 + 1).toNatClampNeg) (xs (x5 + 2).toNatClampNeg) h _ hw) lk_L_145 lc_L_rule (RM_mk (Nat.le_of_ble_eq_true rfl) (Nat.le_of_ble_eq_true rfl)) rfl rfl rfl rfl (Nat.le_of_ble_eq_true rfl) (k1 := (k + 3)) (z1 := (z + 18)) rfl rfl (by omega) (by omega) dL_law_834 (fun r115 h116 hw => ?_)
                        refine r_istore E [some (.ref bs), some (rf X 10 0), some (rf X 11 0), some (rf X 75 0), some (rf X 76 0), some (.int x5), some (.int r115), none, none] (Nat.le_of_ble_eq_true rfl) rfl dL_law_837 ?_
                        refine r_aload_n E 11 0 rfl dL_law_839 ?_
                        refine r_aloadS E rfl dL_law_840 ?_
                        refine r_iload E x5 rfl dL_law_841 ?_
                        refine r_iconst E 1 rfl dL_law_843 ?_
                        refine r_iadd E dL_law_844 ?_
                        refine r_sld E hSX i113 dL_law_845 ?_
                        refine r_aloadS E rfl dL_law_846 ?_
                        refine r_iload E x5 rfl dL_law_847 ?_
                        refine r_iconst E 2 rfl dL_law_849 ?_
                        refine r_iadd E dL_law_850 ?_
                        refine r_sld E hSX i114 dL_law_851 ?_
                        refine r_callVI E (m_X11_rule (EE_st E) (GX X) (xs (x5 + 1).toNatClampNeg) (xs (x5 + 2).toNatClampNeg) h116 _ hw) lk_L_147 (RM_mk (Nat.le_of_ble_eq_true rfl) (Nat.le_of_ble_eq_true rfl)) rfl rfl rfl rfl (Nat.le_of_ble_eq_true rfl) (adr_lt (Nat.le_of_ble_eq_true rfl)) (Nat.le_of_ble_eq_true rfl) (k1 := (k + 3)) (z1 := (z + 18)) rfl rfl (by omega) (by omega) dL_law_852 (fun r117 h118 hw => ?_)
                        refine r_istore E [some (.ref bs), some (rf X 10 0), some (rf X 11 0), some (rf X 75 0), some (rf X 76 0), some (.int x5), some (.int r115), some (.int r117), none] (Nat.le_of_ble_eq_true rfl) rfl dL_law_855 ?_
                        refine r_aload_n E 11 0 rfl dL_law_857 ?_
                        refine r_callVI E (m_X11_thrown (EE_st E) (GX X)  h118 _ hw) lk_L_114 (RM_mk (Nat.le_of_ble_eq_true rfl) (Nat.le_of_ble_eq_true rfl)) rfl rfl rfl rfl (Nat.le_of_ble_eq_true rfl) (adr_lt (Nat.le_of_ble_eq_true rfl)) (Nat.le_of_ble_eq_true rfl) (k1 := (k + 3)) (z1 := (z + 18)) rfl rfl (by omega) (by omega) dL_law_858 (fun r119 u9 hw => ?_)
                        obtain ⟨rfl, hw⟩ := hw
                        refine r_iload E r115 rfl dL_law_861 ?_
                        refine r_icmp_eq E 868 (by decide) dL_law_863 (fun c120 => ?_) (fun c120 => ?_)
                        · have hw := ite_t hw c120
                          refine r_iload E r115 rfl dL_law_868 ?_
                          refine r_if_ne E 885 (by decide) dL_law_870 (fun c121 => ?_) (fun c121 => ?_)
                          · have hw := ite_t hw c121
                            refine r_aload_n E 75 0 rfl dL_law_873 ?_
                            refine r_iconst E 0 rfl dL_law_874 ?_
                            obtain ⟨i122, hw⟩ := hw
                            refine r_lald E rfl rfl rfl (Nat.le_of_ble_eq_true rfl) (adr_lt (Nat.le_of_ble_eq_true rfl)) i122 dL_law_875 ?_
                            refine r_iload E r117 rfl dL_law_876 ?_
                            refine r_i2l E dL_law_878 ?_
                            refine r_lcmp_eq E 885 (by decide) dL_law_879 dL_law_880 (fun c123 => ?_) (fun c123 => ?_)
                            · have hw := ite_t hw c123
                              exact GG_weak [true, true, true, true, true, true, false, false, false] rfl (t_L_law_b885 h118 x5 Ls xs bs hSX k z hkb hzb hc E hE P28 hP28  hw)
                            · have hw := ite_f hw c123
                              refine r_iconst E 0 rfl dL_law_883 ?_
                              exact hE _ _ _ _ _ _ (by omega) (by omega) dL_law_884 (isB_nar isB_0) ⟨isB_0, hw⟩
                          · have hw := ite_f hw c121
                            exact GG_weak [true, true, true, true, true, true, false, false, false] rfl (t_L_law_b885 h118 x5 Ls xs bs hSX k z hkb hzb hc E hE P28 hP28  hw)
                        · have hw := ite_f hw c120
                          refine r_iconst E 0 rfl dL_law_866 ?_
                          exact hE _ _ _ _ _ _ (by omega) (by omega) dL_law_867 (isB_nar isB_0) ⟨isB_0, hw⟩
                      · have hw := ite_f hw c112
                        rcases Decidable.em (((xs x5.toNatClampNeg) &&& 31) = 10) with c124 | c124
                        · have hw := ite_t hw c124
                          refine r_tableI E 10 c124 (off := 843) 888 dL_law_45 (by decide) (by decide) rfl (by decide) ?_
                          refine r_aload_n E 10 0 rfl dL_law_888 ?_
                          refine r_aloadS E rfl dL_law_889 ?_
                          refine r_iload E x5 rfl dL_law_890 ?_
                          refine r_iconst E 1 rfl dL_law_892 ?_
                          refine r_iadd E dL_law_893 ?_
                          obtain ⟨i125, hw⟩ := hw
                          refine r_sld E hSX i125 dL_law_894 ?_
                          refine r_aloadS E rfl dL_law_895 ?_
                          refine r_iload E x5 rfl dL_law_896 ?_
                          refine r_iconst E 2 rfl dL_law_898 ?_
                          refine r_iadd E dL_law_899 ?_
                          obtain ⟨i126, hw⟩ := hw
                          refine r_sld E hSX i126 dL_law_900 ?_
                          refine r_aloadS E rfl dL_law_901 ?_
                          refine r_iload E x5 rfl dL_law_902 ?_
                          refine r_iconst E 3 rfl dL_law_904 ?_
                          refine r_iadd E dL_law_905 ?_
                          obtain ⟨i127, hw⟩ := hw
                          refine r_sld E hSX i127 dL_law_906 ?_
                          refine r_i2c E dL_law_907 ?_
                          refine r_aloadS E rfl dL_law_908 ?_
                          refine r_iload E x5 rfl dL_law_909 ?_
                          refine r_iconst E 4 rfl dL_law_911 ?_
                          refine r_iadd E dL_law_912 ?_
                          obtain ⟨i128, hw⟩ := hw
                          refine r_sld E hSX i128 dL_law_913 ?_
                          refine r_aload_n E 75 0 rfl dL_law_914 ?_
                          refine r_callW E (m_L_action (EE_st E) (GX X) (xs (x5 + 1).toNatClampNeg) (xs (x5 + 2).toNatClampNeg) (((xs (x5 + 3).toNatClampNeg).toUInt32 % 65536).toInt32) (xs (x5 + 4).toNatClampNeg) h _ hw) lk_L_148 lc_L_action (RM_mk (Nat.le_of_ble_eq_true rfl) (Nat.le_of_ble_eq_true rfl)) rfl rfl rfl rfl (Nat.le_of_ble_eq_true rfl) (k1 := (k + 3)) (z1 := (z + 18)) rfl rfl (by omega) (by omega) dL_law_915 (fun r129 h130 hw => ?_)
                          refine r_istore E [some (.ref bs), some (rf X 10 0), some (rf X 11 0), some (rf X 75 0), some (rf X 76 0), some (.int x5), some (.int r129), none, none] (Nat.le_of_ble_eq_true rfl) rfl dL_law_918 ?_
                          refine r_aload_n E 11 0 rfl dL_law_920 ?_
                          refine r_aloadS E rfl dL_law_921 ?_
                          refine r_iload E x5 rfl dL_law_922 ?_
                          refine r_iconst E 1 rfl dL_law_924 ?_
                          refine r_iadd E dL_law_925 ?_
                          refine r_sld E hSX i125 dL_law_926 ?_
                          refine r_aloadS E rfl dL_law_927 ?_
                          refine r_iload E x5 rfl dL_law_928 ?_
                          refine r_iconst E 2 rfl dL_law_930 ?_
                          refine r_iadd E dL_law_931 ?_
                          refine r_sld E hSX i126 dL_law_932 ?_
                          refine r_aloadS E rfl dL_law_933 ?_
                          refine r_iload E x5 rfl dL_law_934 ?_
                          refine r_iconst E 3 rfl dL_law_936 ?_
                          refine r_iadd E dL_law_937 ?_
                          refine r_sld E hSX i127 dL_law_938 ?_
                          refine r_i2c E dL_law_939 ?_
                          refine r_aloadS E rfl dL_law_940 ?_
                          refine r_iload E x5 rfl dL_law_941 ?_
                          refine r_iconst E 4 rfl dL_law_943 ?_
                          refine r_iadd E dL_law_944 ?_
                          refine r_sld E hSX i128 dL_law_945 ?_
                          refine r_callVI E (m_X11_action (EE_st E) (GX X) (xs (x5 + 1).toNatClampNeg) (xs (x5 + 2).toNatClampNeg) (((xs (x5 + 3).toNatClampNeg).toUInt32 % 65536).toInt32) (xs (x5 + 4).toNatClampNeg) h130 _ hw) lk_L_151 (RM_mk (Nat.le_of_ble_eq_true rfl) (Nat.le_of_ble_eq_true rfl)) rfl rfl rfl rfl (Nat.le_of_ble_eq_true rfl) (adr_lt (Nat.le_of_ble_eq_true rfl)) (Nat.le_of_ble_eq_true rfl) (k1 := (k + 3)) (z1 := (z + 18)) rfl rfl (by omega) (by omega) dL_law_946 (fun r131 h132 hw => ?_)
                          refine r_istore E [some (.ref bs), some (rf X 10 0), some (rf X 11 0), some (rf X 75 0), some (rf X 76 0), some (.int x5), some (.int r129), some (.int r131), none] (Nat.le_of_ble_eq_true rfl) rfl dL_law_949 ?_
                          refine r_aload_n E 11 0 rfl dL_law_951 ?_
                          refine r_callVI E (m_X11_thrown (EE_st E) (GX X)  h132 _ hw) lk_L_114 (RM_mk (Nat.le_of_ble_eq_true rfl) (Nat.le_of_ble_eq_true rfl)) rfl rfl rfl rfl (Nat.le_of_ble_eq_true rfl) (adr_lt (Nat.le_of_ble_eq_true rfl)) (Nat.le_of_ble_eq_true rfl) (k1 := (k + 3)) (z1 := (z + 18)) rfl rfl (by omega) (by omega) dL_law_952 (fun r133 u9 hw => ?_)
                          obtain ⟨rfl, hw⟩ := hw
                          refine r_iload E r129 rfl dL_law_955 ?_
                          refine r_icmp_eq E 962 (by decide) dL_law_957 (fun c134 => ?_) (fun c134 => ?_)
                          · have hw := ite_t hw c134
                            refine r_iload E r129 rfl dL_law_962 ?_
                            refine r_if_ne E 979 (by decide) dL_law_964 (fun c135 => ?_) (fun c135 => ?_)
                            · have hw := ite_t hw c135
                              refine r_aload_n E 75 0 rfl dL_law_967 ?_
                              refine r_iconst E 0 rfl dL_law_968 ?_
                              obtain ⟨i136, hw⟩ := hw
                              refine r_lald E rfl rfl rfl (Nat.le_of_ble_eq_true rfl) (adr_lt (Nat.le_of_ble_eq_true rfl)) i136 dL_law_969 ?_
                              refine r_iload E r131 rfl dL_law_970 ?_
                              refine r_i2l E dL_law_972 ?_
                              refine r_lcmp_eq E 979 (by decide) dL_law_973 dL_law_974 (fun c137 => ?_) (fun c137 => ?_)
                              · have hw := ite_t hw c137
                                exact GG_weak [true, true, true, true, true, true, false, false, false] rfl (t_L_law_b979 h132 x5 Ls xs bs hSX k z hkb hzb hc E hE P28 hP28  hw)
                              · have hw := ite_f hw c137
                                refine r_iconst E 0 rfl dL_law_977 ?_
                                exact hE _ _ _ _ _ _ (by omega) (by omega) dL_law_978 (isB_nar isB_0) ⟨isB_0, hw⟩
                            · have hw := ite_f hw c135
                              exact GG_weak [true, true, true, true, true, true, false, false, false] rfl (t_L_law_b979 h132 x5 Ls xs bs hSX k z hkb hzb hc E hE P28 hP28  hw)
                          · have hw := ite_f hw c134
                            refine r_iconst E 0 rfl dL_law_960 ?_
                            exact hE _ _ _ _ _ _ (by omega) (by omega) dL_law_961 (isB_nar isB_0) ⟨isB_0, hw⟩
                        · have hw := ite_f hw c124
                          rcases Decidable.em (((xs x5.toNatClampNeg) &&& 31) = 11) with c138 | c138
                          · have hw := ite_t hw c138
                            refine r_tableI E 11 c138 (off := 937) 982 dL_law_45 (by decide) (by decide) rfl (by decide) ?_
                            refine r_aload_n E 10 0 rfl dL_law_982 ?_
                            refine r_aloadS E rfl dL_law_983 ?_
                            refine r_iload E x5 rfl dL_law_984 ?_
                            refine r_iconst E 1 rfl dL_law_986 ?_
                            refine r_iadd E dL_law_987 ?_
                            obtain ⟨i139, hw⟩ := hw
                            refine r_sld E hSX i139 dL_law_988 ?_
                            refine r_aload_n E 75 0 rfl dL_law_989 ?_
                            refine r_callW E (m_L_clear (EE_st E) (GX X) (xs (x5 + 1).toNatClampNeg) h _ hw) lk_L_152 lc_L_clear (RM_mk (Nat.le_of_ble_eq_true rfl) (Nat.le_of_ble_eq_true rfl)) rfl rfl rfl rfl (Nat.le_of_ble_eq_true rfl) (k1 := (k + 1)) (z1 := (z + 6)) rfl rfl (by omega) (by omega) dL_law_990 (fun r140 h141 hw => ?_)
                            refine r_istore E [some (.ref bs), some (rf X 10 0), some (rf X 11 0), some (rf X 75 0), some (rf X 76 0), some (.int x5), some (.int r140), none, none] (Nat.le_of_ble_eq_true rfl) rfl dL_law_993 ?_
                            refine r_aload_n E 11 0 rfl dL_law_995 ?_
                            refine r_aloadS E rfl dL_law_996 ?_
                            refine r_iload E x5 rfl dL_law_997 ?_
                            refine r_iconst E 1 rfl dL_law_999 ?_
                            refine r_iadd E dL_law_1000 ?_
                            refine r_sld E hSX i139 dL_law_1001 ?_
                            refine r_callVI E (m_X11_clear (EE_st E) (GX X) (xs (x5 + 1).toNatClampNeg) h141 _ hw) lk_L_154 (RM_mk (Nat.le_of_ble_eq_true rfl) (Nat.le_of_ble_eq_true rfl)) rfl rfl rfl rfl (Nat.le_of_ble_eq_true rfl) (adr_lt (Nat.le_of_ble_eq_true rfl)) (Nat.le_of_ble_eq_true rfl) (k1 := (k + 1)) (z1 := (z + 6)) rfl rfl (by omega) (by omega) dL_law_1002 (fun r142 h143 hw => ?_)
                            refine r_istore E [some (.ref bs), some (rf X 10 0), some (rf X 11 0), some (rf X 75 0), some (rf X 76 0), some (.int x5), some (.int r140), some (.int r142), none] (Nat.le_of_ble_eq_true rfl) rfl dL_law_1005 ?_
                            refine r_aload_n E 11 0 rfl dL_law_1007 ?_
                            refine r_callVI E (m_X11_thrown (EE_st E) (GX X)  h143 _ hw) lk_L_114 (RM_mk (Nat.le_of_ble_eq_true rfl) (Nat.le_of_ble_eq_true rfl)) rfl rfl rfl rfl (Nat.le_of_ble_eq_true rfl) (adr_lt (Nat.le_of_ble_eq_true rfl)) (Nat.le_of_ble_eq_true rfl) (k1 := (k + 1)) (z1 := (z + 6)) rfl rfl (by omega) (by omega) dL_law_1008 (fun r144 u9 hw => ?_)
                            obtain ⟨rfl, hw⟩ := hw
                            refine r_iload E r140 rfl dL_law_1011 ?_
                            refine r_icmp_eq E 1018 (by decide) dL_law_1013 (fun c145 => ?_) (fun c145 => ?_)
                            · have hw := ite_t hw c145
                              refine r_iload E r140 rfl dL_law_1018 ?_
                              refine r_if_ne E 1035 (by decide) dL_law_1020 (fun c146 => ?_) (fun c146 => ?_)
                              · have hw := ite_t hw c146
                                refine r_aload_n E 75 0 rfl dL_law_1023 ?_
                                refine r_iconst E 0 rfl dL_law_1024 ?_
                                obtain ⟨i147, hw⟩ := hw
                                refine r_lald E rfl rfl rfl (Nat.le_of_ble_eq_true rfl) (adr_lt (Nat.le_of_ble_eq_true rfl)) i147 dL_law_1025 ?_
                                refine r_iload E r142 rfl dL_law_1026 ?_
                                refine r_i2l E dL_law_1028 ?_
                                refine r_lcmp_eq E 1035 (by decide) dL_law_1029 dL_law_1030 (fun c148 => ?_) (fun c148 => ?_)
                                · have hw := ite_t hw c148
                                  exact GG_weak [true, true, true, true, true, true, false, false, false] rfl (t_L_law_b1035 h143 x5 Ls xs bs hSX k z hkb hzb hc E hE P28 hP28  hw)
                                · have hw := ite_f hw c148
                                  refine r_iconst E 0 rfl dL_law_1033 ?_
                                  exact hE _ _ _ _ _ _ (by omega) (by omega) dL_law_1034 (isB_nar isB_0) ⟨isB_0, hw⟩
                              · have hw := ite_f hw c146
                                exact GG_weak [true, true, true, true, true, true, false, false, false] rfl (t_L_law_b1035 h143 x5 Ls xs bs hSX k z hkb hzb hc E hE P28 hP28  hw)
                            · have hw := ite_f hw c145
                              refine r_iconst E 0 rfl dL_law_1016 ?_
                              exact hE _ _ _ _ _ _ (by omega) (by omega) dL_law_1017 (isB_nar isB_0) ⟨isB_0, hw⟩
                          · have hw := ite_f hw c138
                            rcases Decidable.em (((xs x5.toNatClampNeg) &&& 31) = 12) with c149 | c149
                            · have hw := ite_t hw c149
                              refine r_tableI E 12 c149 (off := 993) 1038 dL_law_45 (by decide) (by decide) rfl (by decide) ?_
                              refine r_aload_n E 10 0 rfl dL_law_1038 ?_
                              refine r_aloadS E rfl dL_law_1039 ?_
                              refine r_iload E x5 rfl dL_law_1040 ?_
                              refine r_iconst E 1 rfl dL_law_1042 ?_
                              refine r_iadd E dL_law_1043 ?_
                              obtain ⟨i150, hw⟩ := hw
                              refine r_sld E hSX i150 dL_law_1044 ?_
                              refine r_aloadS E rfl dL_law_1045 ?_
                              refine r_iload E x5 rfl dL_law_1046 ?_
                              refine r_iconst E 2 rfl dL_law_1048 ?_
                              refine r_iadd E dL_law_1049 ?_
                              obtain ⟨i151, hw⟩ := hw
                              refine r_sld E hSX i151 dL_law_1050 ?_
                              refine r_aloadS E rfl dL_law_1051 ?_
                              refine r_iload E x5 rfl dL_law_1052 ?_
                              refine r_iconst E 3 rfl dL_law_1054 ?_
                              refine r_iadd E dL_law_1055 ?_
                              obtain ⟨i152, hw⟩ := hw
                              refine r_sld E hSX i152 dL_law_1056 ?_
                              refine r_aload_n E 75 0 rfl dL_law_1057 ?_
                              refine r_callW E (m_L_reorder (EE_st E) (GX X) (xs (x5 + 1).toNatClampNeg) (xs (x5 + 2).toNatClampNeg) (xs (x5 + 3).toNatClampNeg) h _ hw) lk_L_155 lc_L_reorder (RM_mk (Nat.le_of_ble_eq_true rfl) (Nat.le_of_ble_eq_true rfl)) rfl rfl rfl rfl (Nat.le_of_ble_eq_true rfl) (k1 := (k + 4)) (z1 := (z + 24)) rfl rfl (by omega) (by omega) dL_law_1058 (fun r153 h154 hw => ?_)
                              refine r_istore E [some (.ref bs), some (rf X 10 0), some (rf X 11 0), some (rf X 75 0), some (rf X 76 0), some (.int x5), some (.int r153), none, none] (Nat.le_of_ble_eq_true rfl) rfl dL_law_1061 ?_
                              refine r_aload_n E 11 0 rfl dL_law_1063 ?_
                              refine r_aloadS E rfl dL_law_1064 ?_
                              refine r_iload E x5 rfl dL_law_1065 ?_
                              refine r_iconst E 1 rfl dL_law_1067 ?_
                              refine r_iadd E dL_law_1068 ?_
                              refine r_sld E hSX i150 dL_law_1069 ?_
                              refine r_aloadS E rfl dL_law_1070 ?_
                              refine r_iload E x5 rfl dL_law_1071 ?_
                              refine r_iconst E 2 rfl dL_law_1073 ?_
                              refine r_iadd E dL_law_1074 ?_
                              refine r_sld E hSX i151 dL_law_1075 ?_
                              refine r_aloadS E rfl dL_law_1076 ?_
                              refine r_iload E x5 rfl dL_law_1077 ?_
                              refine r_iconst E 3 rfl dL_law_1079 ?_
                              refine r_iadd E dL_law_1080 ?_
                              refine r_sld E hSX i152 dL_law_1081 ?_
                              refine r_callVI E (m_X11_reorder (EE_st E) (GX X) (xs (x5 + 1).toNatClampNeg) (xs (x5 + 2).toNatClampNeg) (xs (x5 + 3).toNatClampNeg) h154 _ hw) lk_L_158 (RM_mk (Nat.le_of_ble_eq_true rfl) (Nat.le_of_ble_eq_true rfl)) rfl rfl rfl rfl (Nat.le_of_ble_eq_true rfl) (adr_lt (Nat.le_of_ble_eq_true rfl)) (Nat.le_of_ble_eq_true rfl) (k1 := (k + 4)) (z1 := (z + 24)) rfl rfl (by omega) (by omega) dL_law_1082 (fun r155 h156 hw => ?_)
                              refine r_istore E [some (.ref bs), some (rf X 10 0), some (rf X 11 0), some (rf X 75 0), some (rf X 76 0), some (.int x5), some (.int r153), some (.int r155), none] (Nat.le_of_ble_eq_true rfl) rfl dL_law_1085 ?_
                              refine r_aload_n E 11 0 rfl dL_law_1087 ?_
                              refine r_callVI E (m_X11_thrown (EE_st E) (GX X)  h156 _ hw) lk_L_114 (RM_mk (Nat.le_of_ble_eq_true rfl) (Nat.le_of_ble_eq_true rfl)) rfl rfl rfl rfl (Nat.le_of_ble_eq_true rfl) (adr_lt (Nat.le_of_ble_eq_true rfl)) (Nat.le_of_ble_eq_true rfl) (k1 := (k + 4)) (z1 := (z + 24)) rfl rfl (by omega) (by omega) dL_law_1088 (fun r157 u9 hw => ?_)
                              obtain ⟨rfl, hw⟩ := hw
                              refine r_iload E r153 rfl dL_law_1091 ?_
                              refine r_icmp_eq E 1098 (by decide) dL_law_1093 (fun c158 => ?_) (fun c158 => ?_)
                              · have hw := ite_t hw c158
                                refine r_iload E r153 rfl dL_law_1098 ?_
                                refine r_if_ne E 1115 (by decide) dL_law_1100 (fun c159 => ?_) (fun c159 => ?_)
                                · have hw := ite_t hw c159
                                  refine r_aload_n E 75 0 rfl dL_law_1103 ?_
                                  refine r_iconst E 0 rfl dL_law_1104 ?_
                                  obtain ⟨i160, hw⟩ := hw
                                  refine r_lald E rfl rfl rfl (Nat.le_of_ble_eq_true rfl) (adr_lt (Nat.le_of_ble_eq_true rfl)) i160 dL_law_1105 ?_
                                  refine r_iload E r155 rfl dL_law_1106 ?_
                                  refine r_i2l E dL_law_1108 ?_
                                  refine r_lcmp_eq E 1115 (by decide) dL_law_1109 dL_law_1110 (fun c161 => ?_) (fun c161 => ?_)
                                  · have hw := ite_t hw c161
                                    exact GG_weak [true, true, true, true, true, true, false, false, false] rfl (t_L_law_b1115 h156 x5 Ls xs bs hSX k z hkb hzb hc E hE P28 hP28  hw)
                                  · have hw := ite_f hw c161
                                    refine r_iconst E 0 rfl dL_law_1113 ?_
                                    exact hE _ _ _ _ _ _ (by omega) (by omega) dL_law_1114 (isB_nar isB_0) ⟨isB_0, hw⟩
                                · have hw := ite_f hw c159
                                  exact GG_weak [true, true, true, true, true, true, false, false, false] rfl (t_L_law_b1115 h156 x5 Ls xs bs hSX k z hkb hzb hc E hE P28 hP28  hw)
                              · have hw := ite_f hw c158
                                refine r_iconst E 0 rfl dL_law_1096 ?_
                                exact hE _ _ _ _ _ _ (by omega) (by omega) dL_law_1097 (isB_nar isB_0) ⟨isB_0, hw⟩
                            · have hw := ite_f hw c149
                              rcases Decidable.em (((xs x5.toNatClampNeg) &&& 31) = 13) with c162 | c162
                              · have hw := ite_t hw c162
                                refine r_tableI E 13 c162 (off := 1073) 1118 dL_law_45 (by decide) (by decide) rfl (by decide) ?_
                                refine r_aload_n E 10 0 rfl dL_law_1118 ?_
                                refine r_aloadS E rfl dL_law_1119 ?_
                                refine r_iload E x5 rfl dL_law_1120 ?_
                                refine r_iconst E 1 rfl dL_law_1122 ?_
                                refine r_iadd E dL_law_1123 ?_
                                obtain ⟨i163, hw⟩ := hw
                                refine r_sld E hSX i163 dL_law_1124 ?_
                                refine r_aload_n E 75 0 rfl dL_law_1125 ?_
                                refine r_callW E (m_L_deliver (EE_st E) (GX X) (xs (x5 + 1).toNatClampNeg) h _ hw) lk_L_159 lc_L_deliver (RM_mk (Nat.le_of_ble_eq_true rfl) (Nat.le_of_ble_eq_true rfl)) rfl rfl rfl rfl (Nat.le_of_ble_eq_true rfl) (k1 := (k + 1)) (z1 := (z + 6)) rfl rfl (by omega) (by omega) dL_law_1126 (fun r164 h165 hw => ?_)
                                refine r_istore E [some (.ref bs), some (rf X 10 0), some (rf X 11 0), some (rf X 75 0), some (rf X 76 0), some (.int x5), some (.int r164), none, none] (Nat.le_of_ble_eq_true rfl) rfl dL_law_1129 ?_
                                refine r_aload_n E 11 0 rfl dL_law_1131 ?_
                                refine r_aloadS E rfl dL_law_1132 ?_
                                refine r_iload E x5 rfl dL_law_1133 ?_
                                refine r_iconst E 1 rfl dL_law_1135 ?_
                                refine r_iadd E dL_law_1136 ?_
                                refine r_sld E hSX i163 dL_law_1137 ?_
                                refine r_callVI E (m_X11_deliver (EE_st E) (GX X) (xs (x5 + 1).toNatClampNeg) h165 _ hw) lk_L_161 (RM_mk (Nat.le_of_ble_eq_true rfl) (Nat.le_of_ble_eq_true rfl)) rfl rfl rfl rfl (Nat.le_of_ble_eq_true rfl) (adr_lt (Nat.le_of_ble_eq_true rfl)) (Nat.le_of_ble_eq_true rfl) (k1 := (k + 1)) (z1 := (z + 6)) rfl rfl (by omega) (by omega) dL_law_1138 (fun r166 h167 hw => ?_)
                                refine r_istore E [some (.ref bs), some (rf X 10 0), some (rf X 11 0), some (rf X 75 0), some (rf X 76 0), some (.int x5), some (.int r164), some (.int r166), none] (Nat.le_of_ble_eq_true rfl) rfl dL_law_1141 ?_
                                refine r_aload_n E 11 0 rfl dL_law_1143 ?_
                                refine r_callVI E (m_X11_thrown (EE_st E) (GX X)  h167 _ hw) lk_L_114 (RM_mk (Nat.le_of_ble_eq_true rfl) (Nat.le_of_ble_eq_true rfl)) rfl rfl rfl rfl (Nat.le_of_ble_eq_true rfl) (adr_lt (Nat.le_of_ble_eq_true rfl)) (Nat.le_of_ble_eq_true rfl) (k1 := (k + 1)) (z1 := (z + 6)) rfl rfl (by omega) (by omega) dL_law_1144 (fun r168 u9 hw => ?_)
                                obtain ⟨rfl, hw⟩ := hw
                                refine r_iload E r164 rfl dL_law_1147 ?_
                                refine r_icmp_eq E 1154 (by decide) dL_law_1149 (fun c169 => ?_) (fun c169 => ?_)
                                · have hw := ite_t hw c169
                                  refine r_iload E r164 rfl dL_law_1154 ?_
                                  refine r_if_ne E 1171 (by decide) dL_law_1156 (fun c170 => ?_) (fun c170 => ?_)
                                  · have hw := ite_t hw c170
                                    refine r_aload_n E 75 0 rfl dL_law_1159 ?_
                                    refine r_iconst E 0 rfl dL_law_1160 ?_
                                    obtain ⟨i171, hw⟩ := hw
                                    refine r_lald E rfl rfl rfl (Nat.le_of_ble_eq_true rfl) (adr_lt (Nat.le_of_ble_eq_true rfl)) i171 dL_law_1161 ?_
                                    refine r_iload E r166 rfl dL_law_1162 ?_
                                    refine r_i2l E dL_law_1164 ?_
                                    refine r_lcmp_eq E 1171 (by decide) dL_law_1165 dL_law_1166 (fun c172 => ?_) (fun c172 => ?_)
                                    · have hw := ite_t hw c172
                                      exact GG_weak [true, true, true, true, true, true, false, false, false] rfl (t_L_law_b1171 h167 x5 Ls xs bs hSX k z hkb hzb hc E hE P28 hP28  hw)
                                    · have hw := ite_f hw c172
                                      refine r_iconst E 0 rfl dL_law_1169 ?_
                                      exact hE _ _ _ _ _ _ (by omega) (by omega) dL_law_1170 (isB_nar isB_0) ⟨isB_0, hw⟩
                                  · have hw := ite_f hw c170
                                    exact GG_weak [true, true, true, true, true, true, false, false, false] rfl (t_L_law_b1171 h167 x5 Ls xs bs hSX k z hkb hzb hc E hE P28 hP28  hw)
                                · have hw := ite_f hw c169
                                  refine r_iconst E 0 rfl dL_law_1152 ?_
                                  exact hE _ _ _ _ _ _ (by omega) (by omega) dL_law_1153 (isB_nar isB_0) ⟨isB_0, hw⟩
                              · have hw := ite_f hw c162
                                rcases Decidable.em (((xs x5.toNatClampNeg) &&& 31) = 14) with c173 | c173
                                · have hw := ite_t hw c173
                                  refine r_tableI E 14 c173 (off := 1129) 1174 dL_law_45 (by decide) (by decide) rfl (by decide) ?_
                                  refine r_aload_n E 10 0 rfl dL_law_1174 ?_
                                  refine r_aloadS E rfl dL_law_1175 ?_
                                  refine r_iload E x5 rfl dL_law_1176 ?_
                                  refine r_iconst E 1 rfl dL_law_1178 ?_
                                  refine r_iadd E dL_law_1179 ?_
                                  obtain ⟨i174, hw⟩ := hw
                                  refine r_sld E hSX i174 dL_law_1180 ?_
                                  refine r_aloadS E rfl dL_law_1181 ?_
                                  refine r_iload E x5 rfl dL_law_1182 ?_
                                  refine r_iconst E 2 rfl dL_law_1184 ?_
                                  refine r_iadd E dL_law_1185 ?_
                                  obtain ⟨i175, hw⟩ := hw
                                  refine r_sld E hSX i175 dL_law_1186 ?_
                                  refine r_aload_n E 75 0 rfl dL_law_1187 ?_
                                  refine r_callW E (m_L_attempt (EE_st E) (GX X) (xs (x5 + 1).toNatClampNeg) (xs (x5 + 2).toNatClampNeg) h _ hw) lk_L_162 lc_L_attempt (RM_mk (Nat.le_of_ble_eq_true rfl) (Nat.le_of_ble_eq_true rfl)) rfl rfl rfl rfl (Nat.le_of_ble_eq_true rfl) (k1 := (k + 2)) (z1 := (z + 12)) rfl rfl (by omega) (by omega) dL_law_1188 (fun r176 h177 hw => ?_)
                                  refine r_istore E [some (.ref bs), some (rf X 10 0), some (rf X 11 0), some (rf X 75 0), some (rf X 76 0), some (.int x5), some (.int r176), none, none] (Nat.le_of_ble_eq_true rfl) rfl dL_law_1191 ?_
                                  refine r_aload_n E 11 0 rfl dL_law_1193 ?_
                                  refine r_aloadS E rfl dL_law_1194 ?_
                                  refine r_iload E x5 rfl dL_law_1195 ?_
                                  refine r_iconst E 1 rfl dL_law_1197 ?_
                                  refine r_iadd E dL_law_1198 ?_
                                  refine r_sld E hSX i174 dL_law_1199 ?_
                                  refine r_aloadS E rfl dL_law_1200 ?_
                                  refine r_iload E x5 rfl dL_law_1201 ?_
                                  refine r_iconst E 2 rfl dL_law_1203 ?_
                                  refine r_iadd E dL_law_1204 ?_
                                  refine r_sld E hSX i175 dL_law_1205 ?_
                                  refine r_callVI E (m_X11_attempt (EE_st E) (GX X) (xs (x5 + 1).toNatClampNeg) (xs (x5 + 2).toNatClampNeg) h177 _ hw) lk_L_164 (RM_mk (Nat.le_of_ble_eq_true rfl) (Nat.le_of_ble_eq_true rfl)) rfl rfl rfl rfl (Nat.le_of_ble_eq_true rfl) (adr_lt (Nat.le_of_ble_eq_true rfl)) (Nat.le_of_ble_eq_true rfl) (k1 := (k + 2)) (z1 := (z + 12)) rfl rfl (by omega) (by omega) dL_law_1206 (fun r178 h179 hw => ?_)
                                  refine r_istore E [some (.ref bs), some (rf X 10 0), some (rf X 11 0), some (rf X 75 0), some (rf X 76 0), some (.int x5), some (.int r176), some (.int r178), none] (Nat.le_of_ble_eq_true rfl) rfl dL_law_1209 ?_
                                  refine r_aload_n E 11 0 rfl dL_law_1211 ?_
                                  refine r_callVI E (m_X11_thrown (EE_st E) (GX X)  h179 _ hw) lk_L_114 (RM_mk (Nat.le_of_ble_eq_true rfl) (Nat.le_of_ble_eq_true rfl)) rfl rfl rfl rfl (Nat.le_of_ble_eq_true rfl) (adr_lt (Nat.le_of_ble_eq_true rfl)) (Nat.le_of_ble_eq_true rfl) (k1 := (k + 2)) (z1 := (z + 12)) rfl rfl (by omega) (by omega) dL_law_1212 (fun r180 u9 hw => ?_)
                                  obtain ⟨rfl, hw⟩ := hw
                                  refine r_iload E r176 rfl dL_law_1215 ?_
                                  refine r_icmp_eq E 1222 (by decide) dL_law_1217 (fun c181 => ?_) (fun c181 => ?_)
                                  · have hw := ite_t hw c181
                                    refine r_iload E r176 rfl dL_law_1222 ?_
                                    refine r_if_ne E 1239 (by decide) dL_law_1224 (fun c182 => ?_) (fun c182 => ?_)
                                    · have hw := ite_t hw c182
                                      refine r_aload_n E 75 0 rfl dL_law_1227 ?_
                                      refine r_iconst E 0 rfl dL_law_1228 ?_
                                      obtain ⟨i183, hw⟩ := hw
                                      refine r_lald E rfl rfl rfl (Nat.le_of_ble_eq_true rfl) (adr_lt (Nat.le_of_ble_eq_true rfl)) i183 dL_law_1229 ?_
                                      refine r_iload E r178 rfl dL_law_1230 ?_
                                      refine r_i2l E dL_law_1232 ?_
                                      refine r_lcmp_eq E 1239 (by decide) dL_law_1233 dL_law_1234 (fun c184 => ?_) (fun c184 => ?_)
                                      · have hw := ite_t hw c184
                                        exact GG_weak [true, true, true, true, true, true, false, false, false] rfl (t_L_law_b1239 h179 x5 Ls xs bs hSX k z hkb hzb hc E hE P28 hP28  hw)
                                      · have hw := ite_f hw c184
                                        refine r_iconst E 0 rfl dL_law_1237 ?_
                                        exact hE _ _ _ _ _ _ (by omega) (by omega) dL_law_1238 (isB_nar isB_0) ⟨isB_0, hw⟩
                                    · have hw := ite_f hw c182
                                      exact GG_weak [true, true, true, true, true, true, false, false, false] rfl (t_L_law_b1239 h179 x5 Ls xs bs hSX k z hkb hzb hc E hE P28 hP28  hw)
                                  · have hw := ite_f hw c181
                                    refine r_iconst E 0 rfl dL_law_1220 ?_
                                    exact hE _ _ _ _ _ _ (by omega) (by omega) dL_law_1221 (isB_nar isB_0) ⟨isB_0, hw⟩
                                · have hw := ite_f hw c173
                                  rcases Decidable.em (((xs x5.toNatClampNeg) &&& 31) = 15) with c185 | c185
                                  · have hw := ite_t hw c185
                                    refine r_tableI E 15 c185 (off := 1197) 1242 dL_law_45 (by decide) (by decide) rfl (by decide) ?_
                                    refine r_aload_n E 10 0 rfl dL_law_1242 ?_
                                    refine r_callVI E (m_X10_done (EE_st E) (GX X)  h _ hw) lk_L_165 (RM_mk (Nat.le_of_ble_eq_true rfl) (Nat.le_of_ble_eq_true rfl)) rfl rfl rfl rfl (Nat.le_of_ble_eq_true rfl) (adr_lt (Nat.le_of_ble_eq_true rfl)) (Nat.le_of_ble_eq_true rfl) (k1 := k) (z1 := z) rfl rfl (by omega) (by omega) dL_law_1243 (fun r186 u9 hw => ?_)
                                    obtain ⟨rfl, hw⟩ := hw
                                    refine r_aload_n E 11 0 rfl dL_law_1246 ?_
                                    refine r_callVI E (m_X11_done (EE_st E) (GX X)  h _ hw) lk_L_168 (RM_mk (Nat.le_of_ble_eq_true rfl) (Nat.le_of_ble_eq_true rfl)) rfl rfl rfl rfl (Nat.le_of_ble_eq_true rfl) (adr_lt (Nat.le_of_ble_eq_true rfl)) (Nat.le_of_ble_eq_true rfl) (k1 := k) (z1 := z) rfl rfl (by omega) (by omega) dL_law_1247 (fun r187 h188 hw => ?_)
                                    refine r_icmp_eq E 1951 (by decide) dL_law_1250 (fun c189 => ?_) (fun c189 => ?_)
                                    · have hw := ite_t hw c189
                                      exact GG_wid (by omega) (by omega) (GG_weak [true, true, true, true, true, true, false, false, false] rfl (t_L_law_b1951 h188 x5 Ls xs bs hSX k z hkb hzb hc E hE P28 hP28  hw))
                                    · have hw := ite_f hw c189
                                      refine r_iconst E 0 rfl dL_law_1253 ?_
                                      exact hE _ _ _ _ _ _ (by omega) (by omega) dL_law_1254 (isB_nar isB_0) ⟨isB_0, hw⟩
                                  · have hw := ite_f hw c185
                                    rcases Decidable.em (((xs x5.toNatClampNeg) &&& 31) = 16) with c190 | c190
                                    · have hw := ite_t hw c190
                                      refine r_tableI E 16 c190 (off := 1210) 1255 dL_law_45 (by decide) (by decide) rfl (by decide) ?_
                                      refine r_aload_n E 10 0 rfl dL_law_1255 ?_
                                      refine r_aloadS E rfl dL_law_1256 ?_
                                      refine r_iload E x5 rfl dL_law_1257 ?_
                                      refine r_iconst E 1 rfl dL_law_1259 ?_
                                      refine r_iadd E dL_law_1260 ?_
                                      obtain ⟨i191, hw⟩ := hw
                                      refine r_sld E hSX i191 dL_law_1261 ?_
                                      refine r_aload_n E 75 0 rfl dL_law_1262 ?_
                                      refine r_callW E (m_L_doneAt (EE_st E) (GX X) (xs (x5 + 1).toNatClampNeg) h _ hw) lk_L_169 lc_L_doneAt (RM_mk (Nat.le_of_ble_eq_true rfl) (Nat.le_of_ble_eq_true rfl)) rfl rfl rfl rfl (Nat.le_of_ble_eq_true rfl) (k1 := (k + 1)) (z1 := (z + 6)) rfl rfl (by omega) (by omega) dL_law_1263 (fun r192 h193 hw => ?_)
                                      refine r_istore E [some (.ref bs), some (rf X 10 0), some (rf X 11 0), some (rf X 75 0), some (rf X 76 0), some (.int x5), some (.int r192), none, none] (Nat.le_of_ble_eq_true rfl) rfl dL_law_1266 ?_
                                      refine r_aload_n E 11 0 rfl dL_law_1268 ?_
                                      refine r_aloadS E rfl dL_law_1269 ?_
                                      refine r_iload E x5 rfl dL_law_1270 ?_
                                      refine r_iconst E 1 rfl dL_law_1272 ?_
                                      refine r_iadd E dL_law_1273 ?_
                                      refine r_sld E hSX i191 dL_law_1274 ?_
                                      refine r_callVI E (m_X11_doneAt (EE_st E) (GX X) (xs (x5 + 1).toNatClampNeg) h193 _ hw) lk_L_171 (RM_mk (Nat.le_of_ble_eq_true rfl) (Nat.le_of_ble_eq_true rfl)) rfl rfl rfl rfl (Nat.le_of_ble_eq_true rfl) (adr_lt (Nat.le_of_ble_eq_true rfl)) (Nat.le_of_ble_eq_true rfl) (k1 := (k + 1)) (z1 := (z + 6)) rfl rfl (by omega) (by omega) dL_law_1275 (fun r194 h195 hw => ?_)
                                      refine r_istore E [some (.ref bs), some (rf X 10 0), some (rf X 11 0), some (rf X 75 0), some (rf X 76 0), some (.int x5), some (.int r192), some (.int r194), none] (Nat.le_of_ble_eq_true rfl) rfl dL_law_1278 ?_
                                      refine r_aload_n E 11 0 rfl dL_law_1280 ?_
                                      refine r_callVI E (m_X11_thrown (EE_st E) (GX X)  h195 _ hw) lk_L_114 (RM_mk (Nat.le_of_ble_eq_true rfl) (Nat.le_of_ble_eq_true rfl)) rfl rfl rfl rfl (Nat.le_of_ble_eq_true rfl) (adr_lt (Nat.le_of_ble_eq_true rfl)) (Nat.le_of_ble_eq_true rfl) (k1 := (k + 1)) (z1 := (z + 6)) rfl rfl (by omega) (by omega) dL_law_1281 (fun r196 u9 hw => ?_)
                                      obtain ⟨rfl, hw⟩ := hw
                                      refine r_iload E r192 rfl dL_law_1284 ?_
                                      refine r_icmp_eq E 1291 (by decide) dL_law_1286 (fun c197 => ?_) (fun c197 => ?_)
                                      · have hw := ite_t hw c197
                                        refine r_iload E r192 rfl dL_law_1291 ?_
                                        refine r_if_ne E 1308 (by decide) dL_law_1293 (fun c198 => ?_) (fun c198 => ?_)
                                        · have hw := ite_t hw c198
                                          refine r_aload_n E 75 0 rfl dL_law_1296 ?_
                                          refine r_iconst E 0 rfl dL_law_1297 ?_
                                          obtain ⟨i199, hw⟩ := hw
                                          refine r_lald E rfl rfl rfl (Nat.le_of_ble_eq_true rfl) (adr_lt (Nat.le_of_ble_eq_true rfl)) i199 dL_law_1298 ?_
                                          refine r_iload E r194 rfl dL_law_1299 ?_
                                          refine r_i2l E dL_law_1301 ?_
                                          refine r_lcmp_eq E 1308 (by decide) dL_law_1302 dL_law_1303 (fun c200 => ?_) (fun c200 => ?_)
                                          · have hw := ite_t hw c200
                                            exact GG_weak [true, true, true, true, true, true, false, false, false] rfl (t_L_law_b1308 h195 x5 Ls xs bs hSX k z hkb hzb hc E hE P28 hP28  hw)
                                          · have hw := ite_f hw c200
                                            refine r_iconst E 0 rfl dL_law_1306 ?_
                                            exact hE _ _ _ _ _ _ (by omega) (by omega) dL_law_1307 (isB_nar isB_0) ⟨isB_0, hw⟩
                                        · have hw := ite_f hw c198
                                          exact GG_weak [true, true, true, true, true, true, false, false, false] rfl (t_L_law_b1308 h195 x5 Ls xs bs hSX k z hkb hzb hc E hE P28 hP28  hw)
                                      · have hw := ite_f hw c197
                                        refine r_iconst E 0 rfl dL_law_1289 ?_
                                        exact hE _ _ _ _ _ _ (by omega) (by omega) dL_law_1290 (isB_nar isB_0) ⟨isB_0, hw⟩
                                    · have hw := ite_f hw c190
                                      rcases Decidable.em (((xs x5.toNatClampNeg) &&& 31) = 17) with c201 | c201
                                      · have hw := ite_t hw c201
                                        refine r_tableI E 17 c201 (off := 1266) 1311 dL_law_45 (by decide) (by decide) rfl (by decide) ?_
                                        refine r_aload_n E 10 0 rfl dL_law_1311 ?_
                                        refine r_callVI E (m_X10_clashes (EE_st E) (GX X)  h _ hw) lk_L_172 (RM_mk (Nat.le_of_ble_eq_true rfl) (Nat.le_of_ble_eq_true rfl)) rfl rfl rfl rfl (Nat.le_of_ble_eq_true rfl) (adr_lt (Nat.le_of_ble_eq_true rfl)) (Nat.le_of_ble_eq_true rfl) (k1 := k) (z1 := z) rfl rfl (by omega) (by omega) dL_law_1312 (fun r202 u9 hw => ?_)
                                        obtain ⟨rfl, hw⟩ := hw
                                        refine r_aload_n E 11 0 rfl dL_law_1315 ?_
                                        refine r_callVI E (m_X11_clashes (EE_st E) (GX X)  h _ hw) lk_L_175 (RM_mk (Nat.le_of_ble_eq_true rfl) (Nat.le_of_ble_eq_true rfl)) rfl rfl rfl rfl (Nat.le_of_ble_eq_true rfl) (adr_lt (Nat.le_of_ble_eq_true rfl)) (Nat.le_of_ble_eq_true rfl) (k1 := k) (z1 := z) rfl rfl (by omega) (by omega) dL_law_1316 (fun r203 h204 hw => ?_)
                                        refine r_icmp_eq E 1951 (by decide) dL_law_1319 (fun c205 => ?_) (fun c205 => ?_)
                                        · have hw := ite_t hw c205
                                          exact GG_wid (by omega) (by omega) (GG_weak [true, true, true, true, true, true, false, false, false] rfl (t_L_law_b1951 h204 x5 Ls xs bs hSX k z hkb hzb hc E hE P28 hP28  hw))
                                        · have hw := ite_f hw c205
                                          refine r_iconst E 0 rfl dL_law_1322 ?_
                                          exact hE _ _ _ _ _ _ (by omega) (by omega) dL_law_1323 (isB_nar isB_0) ⟨isB_0, hw⟩
                                      · have hw := ite_f hw c201
                                        rcases Decidable.em (((xs x5.toNatClampNeg) &&& 31) = 18) with c206 | c206
                                        · have hw := ite_t hw c206
                                          refine r_tableI E 18 c206 (off := 1279) 1324 dL_law_45 (by decide) (by decide) rfl (by decide) ?_
                                          refine r_aload_n E 10 0 rfl dL_law_1324 ?_
                                          refine r_aloadS E rfl dL_law_1325 ?_
                                          refine r_iload E x5 rfl dL_law_1326 ?_
                                          refine r_iconst E 1 rfl dL_law_1328 ?_
                                          refine r_iadd E dL_law_1329 ?_
                                          obtain ⟨i207, hw⟩ := hw
                                          refine r_sld E hSX i207 dL_law_1330 ?_
                                          refine r_i2c E dL_law_1331 ?_
                                          refine r_aload_n E 75 0 rfl dL_law_1332 ?_
                                          refine r_callW E (m_L_faults (EE_st E) (GX X) (((xs (x5 + 1).toNatClampNeg).toUInt32 % 65536).toInt32) h _ hw) lk_L_176 lc_L_faults (RM_mk (Nat.le_of_ble_eq_true rfl) (Nat.le_of_ble_eq_true rfl)) rfl rfl rfl rfl (Nat.le_of_ble_eq_true rfl) (k1 := (k + 1)) (z1 := (z + 6)) rfl rfl (by omega) (by omega) dL_law_1333 (fun r208 h209 hw => ?_)
                                          refine r_istore E [some (.ref bs), some (rf X 10 0), some (rf X 11 0), some (rf X 75 0), some (rf X 76 0), some (.int x5), some (.int r208), none, none] (Nat.le_of_ble_eq_true rfl) rfl dL_law_1336 ?_
                                          refine r_aload_n E 11 0 rfl dL_law_1338 ?_
                                          refine r_aloadS E rfl dL_law_1339 ?_
                                          refine r_iload E x5 rfl dL_law_1340 ?_
                                          refine r_iconst E 1 rfl dL_law_1342 ?_
                                          refine r_iadd E dL_law_1343 ?_
                                          refine r_sld E hSX i207 dL_law_1344 ?_
                                          refine r_i2c E dL_law_1345 ?_
                                          refine r_callVI E (m_X11_faults (EE_st E) (GX X) (((xs (x5 + 1).toNatClampNeg).toUInt32 % 65536).toInt32) h209 _ hw) lk_L_179 (RM_mk (Nat.le_of_ble_eq_true rfl) (Nat.le_of_ble_eq_true rfl)) rfl rfl rfl rfl (Nat.le_of_ble_eq_true rfl) (adr_lt (Nat.le_of_ble_eq_true rfl)) (Nat.le_of_ble_eq_true rfl) (k1 := (k + 1)) (z1 := (z + 6)) rfl rfl (by omega) (by omega) dL_law_1346 (fun r210 h211 hw => ?_)
                                          refine r_istore E [some (.ref bs), some (rf X 10 0), some (rf X 11 0), some (rf X 75 0), some (rf X 76 0), some (.int x5), some (.int r208), some (.int r210), none] (Nat.le_of_ble_eq_true rfl) rfl dL_law_1349 ?_
                                          refine r_aload_n E 11 0 rfl dL_law_1351 ?_
                                          refine r_callVI E (m_X11_thrown (EE_st E) (GX X)  h211 _ hw) lk_L_114 (RM_mk (Nat.le_of_ble_eq_true rfl) (Nat.le_of_ble_eq_true rfl)) rfl rfl rfl rfl (Nat.le_of_ble_eq_true rfl) (adr_lt (Nat.le_of_ble_eq_true rfl)) (Nat.le_of_ble_eq_true rfl) (k1 := (k + 1)) (z1 := (z + 6)) rfl rfl (by omega) (by omega) dL_law_1352 (fun r212 u9 hw => ?_)
                                          obtain ⟨rfl, hw⟩ := hw
                                          refine r_iload E r208 rfl dL_law_1355 ?_
                                          refine r_icmp_eq E 1362 (by decide) dL_law_1357 (fun c213 => ?_) (fun c213 => ?_)
                                          · have hw := ite_t hw c213
                                            refine r_iload E r208 rfl dL_law_1362 ?_
                                            refine r_if_ne E 1379 (by decide) dL_law_1364 (fun c214 => ?_) (fun c214 => ?_)
                                            · have hw := ite_t hw c214
                                              refine r_aload_n E 75 0 rfl dL_law_1367 ?_
                                              refine r_iconst E 0 rfl dL_law_1368 ?_
                                              obtain ⟨i215, hw⟩ := hw
                                              refine r_lald E rfl rfl rfl (Nat.le_of_ble_eq_true rfl) (adr_lt (Nat.le_of_ble_eq_true rfl)) i215 dL_law_1369 ?_
                                              refine r_iload E r210 rfl dL_law_1370 ?_
                                              refine r_i2l E dL_law_1372 ?_
                                              refine r_lcmp_eq E 1379 (by decide) dL_law_1373 dL_law_1374 (fun c216 => ?_) (fun c216 => ?_)
                                              · have hw := ite_t hw c216
                                                exact GG_weak [true, true, true, true, true, true, false, false, false] rfl (t_L_law_b1379 h211 x5 Ls xs bs hSX k z hkb hzb hc E hE P28 hP28  hw)
                                              · have hw := ite_f hw c216
                                                refine r_iconst E 0 rfl dL_law_1377 ?_
                                                exact hE _ _ _ _ _ _ (by omega) (by omega) dL_law_1378 (isB_nar isB_0) ⟨isB_0, hw⟩
                                            · have hw := ite_f hw c214
                                              exact GG_weak [true, true, true, true, true, true, false, false, false] rfl (t_L_law_b1379 h211 x5 Ls xs bs hSX k z hkb hzb hc E hE P28 hP28  hw)
                                          · have hw := ite_f hw c213
                                            refine r_iconst E 0 rfl dL_law_1360 ?_
                                            exact hE _ _ _ _ _ _ (by omega) (by omega) dL_law_1361 (isB_nar isB_0) ⟨isB_0, hw⟩
                                        · have hw := ite_f hw c206
                                          rcases Decidable.em (((xs x5.toNatClampNeg) &&& 31) = 19) with c217 | c217
                                          · have hw := ite_t hw c217
                                            refine r_tableI E 19 c217 (off := 1337) 1382 dL_law_45 (by decide) (by decide) rfl (by decide) ?_
                                            refine r_aload_n E 10 0 rfl dL_law_1382 ?_
                                            refine r_callVI E (m_X10_flags (EE_st E) (GX X)  h _ hw) lk_L_180 (RM_mk (Nat.le_of_ble_eq_true rfl) (Nat.le_of_ble_eq_true rfl)) rfl rfl rfl rfl (Nat.le_of_ble_eq_true rfl) (adr_lt (Nat.le_of_ble_eq_true rfl)) (Nat.le_of_ble_eq_true rfl) (k1 := k) (z1 := z) rfl rfl (by omega) (by omega) dL_law_1383 (fun r218 u9 hw => ?_)
                                            obtain ⟨rfl, hw⟩ := hw
                                            refine r_aload_n E 11 0 rfl dL_law_1386 ?_
                                            refine r_callVI E (m_X11_flags (EE_st E) (GX X)  h _ hw) lk_L_183 (RM_mk (Nat.le_of_ble_eq_true rfl) (Nat.le_of_ble_eq_true rfl)) rfl rfl rfl rfl (Nat.le_of_ble_eq_true rfl) (adr_lt (Nat.le_of_ble_eq_true rfl)) (Nat.le_of_ble_eq_true rfl) (k1 := k) (z1 := z) rfl rfl (by omega) (by omega) dL_law_1387 (fun r219 h220 hw => ?_)
                                            refine r_icmp_eq E 1951 (by decide) dL_law_1390 (fun c221 => ?_) (fun c221 => ?_)
                                            · have hw := ite_t hw c221
                                              exact GG_wid (by omega) (by omega) (GG_weak [true, true, true, true, true, true, false, false, false] rfl (t_L_law_b1951 h220 x5 Ls xs bs hSX k z hkb hzb hc E hE P28 hP28  hw))
                                            · have hw := ite_f hw c221
                                              refine r_iconst E 0 rfl dL_law_1393 ?_
                                              exact hE _ _ _ _ _ _ (by omega) (by omega) dL_law_1394 (isB_nar isB_0) ⟨isB_0, hw⟩
                                          · have hw := ite_f hw c217
                                            rcases Decidable.em (((xs x5.toNatClampNeg) &&& 31) = 20) with c222 | c222
                                            · have hw := ite_t hw c222
                                              refine r_tableI E 20 c222 (off := 1350) 1395 dL_law_45 (by decide) (by decide) rfl (by decide) ?_
                                              refine r_aload_n E 10 0 rfl dL_law_1395 ?_
                                              refine r_aloadS E rfl dL_law_1396 ?_
                                              refine r_iload E x5 rfl dL_law_1397 ?_
                                              refine r_iconst E 1 rfl dL_law_1399 ?_
                                              refine r_iadd E dL_law_1400 ?_
                                              obtain ⟨i223, hw⟩ := hw
                                              refine r_sld E hSX i223 dL_law_1401 ?_
                                              refine r_aload_n E 75 0 rfl dL_law_1402 ?_
                                              refine r_callW E (m_L_replies (EE_st E) (GX X) (xs (x5 + 1).toNatClampNeg) h _ hw) lk_L_184 lc_L_replies (RM_mk (Nat.le_of_ble_eq_true rfl) (Nat.le_of_ble_eq_true rfl)) rfl rfl rfl rfl (Nat.le_of_ble_eq_true rfl) (k1 := (k + 1)) (z1 := (z + 6)) rfl rfl (by omega) (by omega) dL_law_1403 (fun r224 h225 hw => ?_)
                                              refine r_istore E [some (.ref bs), some (rf X 10 0), some (rf X 11 0), some (rf X 75 0), some (rf X 76 0), some (.int x5), some (.int r224), none, none] (Nat.le_of_ble_eq_true rfl) rfl dL_law_1406 ?_
                                              refine r_aload_n E 11 0 rfl dL_law_1408 ?_
                                              refine r_aloadS E rfl dL_law_1409 ?_
                                              refine r_iload E x5 rfl dL_law_1410 ?_
                                              refine r_iconst E 1 rfl dL_law_1412 ?_
                                              refine r_iadd E dL_law_1413 ?_
                                              refine r_sld E hSX i223 dL_law_1414 ?_
                                              refine r_callVI E (m_X11_replies (EE_st E) (GX X) (xs (x5 + 1).toNatClampNeg) h225 _ hw) lk_L_186 (RM_mk (Nat.le_of_ble_eq_true rfl) (Nat.le_of_ble_eq_true rfl)) rfl rfl rfl rfl (Nat.le_of_ble_eq_true rfl) (adr_lt (Nat.le_of_ble_eq_true rfl)) (Nat.le_of_ble_eq_true rfl) (k1 := (k + 1)) (z1 := (z + 6)) rfl rfl (by omega) (by omega) dL_law_1415 (fun r226 h227 hw => ?_)
                                              refine r_istore E [some (.ref bs), some (rf X 10 0), some (rf X 11 0), some (rf X 75 0), some (rf X 76 0), some (.int x5), some (.int r224), some (.int r226), none] (Nat.le_of_ble_eq_true rfl) rfl dL_law_1418 ?_
                                              refine r_aload_n E 11 0 rfl dL_law_1420 ?_
                                              refine r_callVI E (m_X11_thrown (EE_st E) (GX X)  h227 _ hw) lk_L_114 (RM_mk (Nat.le_of_ble_eq_true rfl) (Nat.le_of_ble_eq_true rfl)) rfl rfl rfl rfl (Nat.le_of_ble_eq_true rfl) (adr_lt (Nat.le_of_ble_eq_true rfl)) (Nat.le_of_ble_eq_true rfl) (k1 := (k + 1)) (z1 := (z + 6)) rfl rfl (by omega) (by omega) dL_law_1421 (fun r228 u9 hw => ?_)
                                              obtain ⟨rfl, hw⟩ := hw
                                              refine r_iload E r224 rfl dL_law_1424 ?_
                                              refine r_icmp_eq E 1431 (by decide) dL_law_1426 (fun c229 => ?_) (fun c229 => ?_)
                                              · have hw := ite_t hw c229
                                                refine r_iload E r224 rfl dL_law_1431 ?_
                                                refine r_if_ne E 1448 (by decide) dL_law_1433 (fun c230 => ?_) (fun c230 => ?_)
                                                · have hw := ite_t hw c230
                                                  refine r_aload_n E 75 0 rfl dL_law_1436 ?_
                                                  refine r_iconst E 0 rfl dL_law_1437 ?_
                                                  obtain ⟨i231, hw⟩ := hw
                                                  refine r_lald E rfl rfl rfl (Nat.le_of_ble_eq_true rfl) (adr_lt (Nat.le_of_ble_eq_true rfl)) i231 dL_law_1438 ?_
                                                  refine r_iload E r226 rfl dL_law_1439 ?_
                                                  refine r_i2l E dL_law_1441 ?_
                                                  refine r_lcmp_eq E 1448 (by decide) dL_law_1442 dL_law_1443 (fun c232 => ?_) (fun c232 => ?_)
                                                  · have hw := ite_t hw c232
                                                    exact GG_weak [true, true, true, true, true, true, false, false, false] rfl (t_L_law_b1448 h227 x5 Ls xs bs hSX k z hkb hzb hc E hE P28 hP28  hw)
                                                  · have hw := ite_f hw c232
                                                    refine r_iconst E 0 rfl dL_law_1446 ?_
                                                    exact hE _ _ _ _ _ _ (by omega) (by omega) dL_law_1447 (isB_nar isB_0) ⟨isB_0, hw⟩
                                                · have hw := ite_f hw c230
                                                  exact GG_weak [true, true, true, true, true, true, false, false, false] rfl (t_L_law_b1448 h227 x5 Ls xs bs hSX k z hkb hzb hc E hE P28 hP28  hw)
                                              · have hw := ite_f hw c229
                                                refine r_iconst E 0 rfl dL_law_1429 ?_
                                                exact hE _ _ _ _ _ _ (by omega) (by omega) dL_law_1430 (isB_nar isB_0) ⟨isB_0, hw⟩
                                            · have hw := ite_f hw c222
                                              rcases Decidable.em (((xs x5.toNatClampNeg) &&& 31) = 21) with c233 | c233
                                              · have hw := ite_t hw c233
                                                refine r_tableI E 21 c233 (off := 1406) 1451 dL_law_45 (by decide) (by decide) rfl (by decide) ?_
                                                refine r_aload_n E 10 0 rfl dL_law_1451 ?_
                                                refine r_aloadS E rfl dL_law_1452 ?_
                                                refine r_iload E x5 rfl dL_law_1453 ?_
                                                refine r_iconst E 1 rfl dL_law_1455 ?_
                                                refine r_iadd E dL_law_1456 ?_
                                                obtain ⟨i234, hw⟩ := hw
                                                refine r_sld E hSX i234 dL_law_1457 ?_
                                                refine r_aload_n E 75 0 rfl dL_law_1458 ?_
                                                refine r_callW E (m_L_forwarded (EE_st E) (GX X) (xs (x5 + 1).toNatClampNeg) h _ hw) lk_L_187 lc_L_forwarded (RM_mk (Nat.le_of_ble_eq_true rfl) (Nat.le_of_ble_eq_true rfl)) rfl rfl rfl rfl (Nat.le_of_ble_eq_true rfl) (k1 := (k + 1)) (z1 := (z + 6)) rfl rfl (by omega) (by omega) dL_law_1459 (fun r235 h236 hw => ?_)
                                                refine r_istore E [some (.ref bs), some (rf X 10 0), some (rf X 11 0), some (rf X 75 0), some (rf X 76 0), some (.int x5), some (.int r235), none, none] (Nat.le_of_ble_eq_true rfl) rfl dL_law_1462 ?_
                                                refine r_aload_n E 11 0 rfl dL_law_1464 ?_
                                                refine r_aloadS E rfl dL_law_1465 ?_
                                                refine r_iload E x5 rfl dL_law_1466 ?_
                                                refine r_iconst E 1 rfl dL_law_1468 ?_
                                                refine r_iadd E dL_law_1469 ?_
                                                refine r_sld E hSX i234 dL_law_1470 ?_
                                                refine r_callVI E (m_X11_forwarded (EE_st E) (GX X) (xs (x5 + 1).toNatClampNeg) h236 _ hw) lk_L_189 (RM_mk (Nat.le_of_ble_eq_true rfl) (Nat.le_of_ble_eq_true rfl)) rfl rfl rfl rfl (Nat.le_of_ble_eq_true rfl) (adr_lt (Nat.le_of_ble_eq_true rfl)) (Nat.le_of_ble_eq_true rfl) (k1 := (k + 1)) (z1 := (z + 6)) rfl rfl (by omega) (by omega) dL_law_1471 (fun r237 h238 hw => ?_)
                                                refine r_istore E [some (.ref bs), some (rf X 10 0), some (rf X 11 0), some (rf X 75 0), some (rf X 76 0), some (.int x5), some (.int r235), some (.int r237), none] (Nat.le_of_ble_eq_true rfl) rfl dL_law_1474 ?_
                                                refine r_aload_n E 11 0 rfl dL_law_1476 ?_
                                                refine r_callVI E (m_X11_thrown (EE_st E) (GX X)  h238 _ hw) lk_L_114 (RM_mk (Nat.le_of_ble_eq_true rfl) (Nat.le_of_ble_eq_true rfl)) rfl rfl rfl rfl (Nat.le_of_ble_eq_true rfl) (adr_lt (Nat.le_of_ble_eq_true rfl)) (Nat.le_of_ble_eq_true rfl) (k1 := (k + 1)) (z1 := (z + 6)) rfl rfl (by omega) (by omega) dL_law_1477 (fun r239 u9 hw => ?_)
                                                obtain ⟨rfl, hw⟩ := hw
                                                refine r_iload E r235 rfl dL_law_1480 ?_
                                                refine r_icmp_eq E 1487 (by decide) dL_law_1482 (fun c240 => ?_) (fun c240 => ?_)
                                                · have hw := ite_t hw c240
                                                  refine r_iload E r235 rfl dL_law_1487 ?_
                                                  refine r_if_ne E 1504 (by decide) dL_law_1489 (fun c241 => ?_) (fun c241 => ?_)
                                                  · have hw := ite_t hw c241
                                                    refine r_aload_n E 75 0 rfl dL_law_1492 ?_
                                                    refine r_iconst E 0 rfl dL_law_1493 ?_
                                                    obtain ⟨i242, hw⟩ := hw
                                                    refine r_lald E rfl rfl rfl (Nat.le_of_ble_eq_true rfl) (adr_lt (Nat.le_of_ble_eq_true rfl)) i242 dL_law_1494 ?_
                                                    refine r_iload E r237 rfl dL_law_1495 ?_
                                                    refine r_i2l E dL_law_1497 ?_
                                                    refine r_lcmp_eq E 1504 (by decide) dL_law_1498 dL_law_1499 (fun c243 => ?_) (fun c243 => ?_)
                                                    · have hw := ite_t hw c243
                                                      exact GG_weak [true, true, true, true, true, true, false, false, false] rfl (t_L_law_b1504 h238 x5 Ls xs bs hSX k z hkb hzb hc E hE P28 hP28  hw)
                                                    · have hw := ite_f hw c243
                                                      refine r_iconst E 0 rfl dL_law_1502 ?_
                                                      exact hE _ _ _ _ _ _ (by omega) (by omega) dL_law_1503 (isB_nar isB_0) ⟨isB_0, hw⟩
                                                  · have hw := ite_f hw c241
                                                    exact GG_weak [true, true, true, true, true, true, false, false, false] rfl (t_L_law_b1504 h238 x5 Ls xs bs hSX k z hkb hzb hc E hE P28 hP28  hw)
                                                · have hw := ite_f hw c240
                                                  refine r_iconst E 0 rfl dL_law_1485 ?_
                                                  exact hE _ _ _ _ _ _ (by omega) (by omega) dL_law_1486 (isB_nar isB_0) ⟨isB_0, hw⟩
                                              · have hw := ite_f hw c233
                                                rcases Decidable.em (((xs x5.toNatClampNeg) &&& 31) = 22) with c244 | c244
                                                · have hw := ite_t hw c244
                                                  refine r_tableI E 22 c244 (off := 1462) 1507 dL_law_45 (by decide) (by decide) rfl (by decide) ?_
                                                  refine r_aload_n E 10 0 rfl dL_law_1507 ?_
                                                  refine r_aloadS E rfl dL_law_1508 ?_
                                                  refine r_iload E x5 rfl dL_law_1509 ?_
                                                  refine r_iconst E 1 rfl dL_law_1511 ?_
                                                  refine r_iadd E dL_law_1512 ?_
                                                  obtain ⟨i245, hw⟩ := hw
                                                  refine r_sld E hSX i245 dL_law_1513 ?_
                                                  refine r_aloadS E rfl dL_law_1514 ?_
                                                  refine r_iload E x5 rfl dL_law_1515 ?_
                                                  refine r_iconst E 2 rfl dL_law_1517 ?_
                                                  refine r_iadd E dL_law_1518 ?_
                                                  obtain ⟨i246, hw⟩ := hw
                                                  refine r_sld E hSX i246 dL_law_1519 ?_
                                                  refine r_aload_n E 75 0 rfl dL_law_1520 ?_
                                                  refine r_callW E (m_L_difference (EE_st E) (GX X) (xs (x5 + 1).toNatClampNeg) (xs (x5 + 2).toNatClampNeg) h _ hw) lk_L_190 lc_L_difference (RM_mk (Nat.le_of_ble_eq_true rfl) (Nat.le_of_ble_eq_true rfl)) rfl rfl rfl rfl (Nat.le_of_ble_eq_true rfl) (k1 := (k + 2)) (z1 := (z + 12)) rfl rfl (by omega) (by omega) dL_law_1521 (fun r247 h248 hw => ?_)
                                                  refine r_istore E [some (.ref bs), some (rf X 10 0), some (rf X 11 0), some (rf X 75 0), some (rf X 76 0), some (.int x5), some (.int r247), none, none] (Nat.le_of_ble_eq_true rfl) rfl dL_law_1524 ?_
                                                  refine r_aload_n E 11 0 rfl dL_law_1526 ?_
                                                  refine r_aloadS E rfl dL_law_1527 ?_
                                                  refine r_iload E x5 rfl dL_law_1528 ?_
                                                  refine r_iconst E 1 rfl dL_law_1530 ?_
                                                  refine r_iadd E dL_law_1531 ?_
                                                  refine r_sld E hSX i245 dL_law_1532 ?_
                                                  refine r_aloadS E rfl dL_law_1533 ?_
                                                  refine r_iload E x5 rfl dL_law_1534 ?_
                                                  refine r_iconst E 2 rfl dL_law_1536 ?_
                                                  refine r_iadd E dL_law_1537 ?_
                                                  refine r_sld E hSX i246 dL_law_1538 ?_
                                                  refine r_callVI E (m_X11_difference (EE_st E) (GX X) (xs (x5 + 1).toNatClampNeg) (xs (x5 + 2).toNatClampNeg) h248 _ hw) lk_L_192 (RM_mk (Nat.le_of_ble_eq_true rfl) (Nat.le_of_ble_eq_true rfl)) rfl rfl rfl rfl (Nat.le_of_ble_eq_true rfl) (adr_lt (Nat.le_of_ble_eq_true rfl)) (Nat.le_of_ble_eq_true rfl) (k1 := (k + 2)) (z1 := (z + 12)) rfl rfl (by omega) (by omega) dL_law_1539 (fun r249 h250 hw => ?_)
                                                  refine r_istore E [some (.ref bs), some (rf X 10 0), some (rf X 11 0), some (rf X 75 0), some (rf X 76 0), some (.int x5), some (.int r247), some (.int r249), none] (Nat.le_of_ble_eq_true rfl) rfl dL_law_1542 ?_
                                                  refine r_aload_n E 11 0 rfl dL_law_1544 ?_
                                                  refine r_callVI E (m_X11_thrown (EE_st E) (GX X)  h250 _ hw) lk_L_114 (RM_mk (Nat.le_of_ble_eq_true rfl) (Nat.le_of_ble_eq_true rfl)) rfl rfl rfl rfl (Nat.le_of_ble_eq_true rfl) (adr_lt (Nat.le_of_ble_eq_true rfl)) (Nat.le_of_ble_eq_true rfl) (k1 := (k + 2)) (z1 := (z + 12)) rfl rfl (by omega) (by omega) dL_law_1545 (fun r251 u9 hw => ?_)
                                                  obtain ⟨rfl, hw⟩ := hw
                                                  refine r_iload E r247 rfl dL_law_1548 ?_
                                                  refine r_icmp_eq E 1555 (by decide) dL_law_1550 (fun c252 => ?_) (fun c252 => ?_)
                                                  · have hw := ite_t hw c252
                                                    refine r_iload E r247 rfl dL_law_1555 ?_
                                                    refine r_if_ne E 1572 (by decide) dL_law_1557 (fun c253 => ?_) (fun c253 => ?_)
                                                    · have hw := ite_t hw c253
                                                      refine r_aload_n E 75 0 rfl dL_law_1560 ?_
                                                      refine r_iconst E 0 rfl dL_law_1561 ?_
                                                      obtain ⟨i254, hw⟩ := hw
                                                      refine r_lald E rfl rfl rfl (Nat.le_of_ble_eq_true rfl) (adr_lt (Nat.le_of_ble_eq_true rfl)) i254 dL_law_1562 ?_
                                                      refine r_iload E r249 rfl dL_law_1563 ?_
                                                      refine r_i2l E dL_law_1565 ?_
                                                      refine r_lcmp_eq E 1572 (by decide) dL_law_1566 dL_law_1567 (fun c255 => ?_) (fun c255 => ?_)
                                                      · have hw := ite_t hw c255
                                                        exact GG_weak [true, true, true, true, true, true, false, false, false] rfl (t_L_law_b1572 h250 x5 Ls xs bs hSX k z hkb hzb hc E hE P28 hP28  hw)
                                                      · have hw := ite_f hw c255
                                                        refine r_iconst E 0 rfl dL_law_1570 ?_
                                                        exact hE _ _ _ _ _ _ (by omega) (by omega) dL_law_1571 (isB_nar isB_0) ⟨isB_0, hw⟩
                                                    · have hw := ite_f hw c253
                                                      exact GG_weak [true, true, true, true, true, true, false, false, false] rfl (t_L_law_b1572 h250 x5 Ls xs bs hSX k z hkb hzb hc E hE P28 hP28  hw)
                                                  · have hw := ite_f hw c252
                                                    refine r_iconst E 0 rfl dL_law_1553 ?_
                                                    exact hE _ _ _ _ _ _ (by omega) (by omega) dL_law_1554 (isB_nar isB_0) ⟨isB_0, hw⟩
                                                · have hw := ite_f hw c244
                                                  rcases Decidable.em (((xs x5.toNatClampNeg) &&& 31) = 23) with c256 | c256
                                                  · have hw := ite_t hw c256
                                                    refine r_tableI E 23 c256 (off := 1530) 1575 dL_law_45 (by decide) (by decide) rfl (by decide) ?_
                                                    refine r_aload_n E 10 0 rfl dL_law_1575 ?_
                                                    refine r_aloadS E rfl dL_law_1576 ?_
                                                    refine r_iload E x5 rfl dL_law_1577 ?_
                                                    refine r_iconst E 1 rfl dL_law_1579 ?_
                                                    refine r_iadd E dL_law_1580 ?_
                                                    obtain ⟨i257, hw⟩ := hw
                                                    refine r_sld E hSX i257 dL_law_1581 ?_
                                                    refine r_aloadS E rfl dL_law_1582 ?_
                                                    refine r_iload E x5 rfl dL_law_1583 ?_
                                                    refine r_iconst E 2 rfl dL_law_1585 ?_
                                                    refine r_iadd E dL_law_1586 ?_
                                                    obtain ⟨i258, hw⟩ := hw
                                                    refine r_sld E hSX i258 dL_law_1587 ?_
                                                    refine r_aload_n E 75 0 rfl dL_law_1588 ?_
                                                    refine r_callW E (m_L_isShadowed (EE_st E) (GX X) (xs (x5 + 1).toNatClampNeg) (xs (x5 + 2).toNatClampNeg) h _ hw) lk_L_193 lc_L_isShadowed (RM_mk (Nat.le_of_ble_eq_true rfl) (Nat.le_of_ble_eq_true rfl)) rfl rfl rfl rfl (Nat.le_of_ble_eq_true rfl) (k1 := (k + 2)) (z1 := (z + 12)) rfl rfl (by omega) (by omega) dL_law_1589 (fun r259 h260 hw => ?_)
                                                    refine r_istore E [some (.ref bs), some (rf X 10 0), some (rf X 11 0), some (rf X 75 0), some (rf X 76 0), some (.int x5), some (.int r259), none, none] (Nat.le_of_ble_eq_true rfl) rfl dL_law_1592 ?_
                                                    refine r_aload_n E 11 0 rfl dL_law_1594 ?_
                                                    refine r_aloadS E rfl dL_law_1595 ?_
                                                    refine r_iload E x5 rfl dL_law_1596 ?_
                                                    refine r_iconst E 1 rfl dL_law_1598 ?_
                                                    refine r_iadd E dL_law_1599 ?_
                                                    refine r_sld E hSX i257 dL_law_1600 ?_
                                                    refine r_aloadS E rfl dL_law_1601 ?_
                                                    refine r_iload E x5 rfl dL_law_1602 ?_
                                                    refine r_iconst E 2 rfl dL_law_1604 ?_
                                                    refine r_iadd E dL_law_1605 ?_
                                                    refine r_sld E hSX i258 dL_law_1606 ?_
                                                    refine r_callVI E (m_X11_isShadowed (EE_st E) (GX X) (xs (x5 + 1).toNatClampNeg) (xs (x5 + 2).toNatClampNeg) h260 _ hw) lk_L_195 (RM_mk (Nat.le_of_ble_eq_true rfl) (Nat.le_of_ble_eq_true rfl)) rfl rfl rfl rfl (Nat.le_of_ble_eq_true rfl) (adr_lt (Nat.le_of_ble_eq_true rfl)) (Nat.le_of_ble_eq_true rfl) (k1 := (k + 2)) (z1 := (z + 12)) rfl rfl (by omega) (by omega) dL_law_1607 (fun r261 h262 hw => ?_)
                                                    obtain ⟨zr261, hw⟩ := hw
                                                    refine r_istore E [some (.ref bs), some (rf X 10 0), some (rf X 11 0), some (rf X 75 0), some (rf X 76 0), some (.int x5), some (.int r259), some (.int r261), none] (Nat.le_of_ble_eq_true rfl) rfl dL_law_1610 ?_
                                                    refine r_aload_n E 11 0 rfl dL_law_1612 ?_
                                                    refine r_callVI E (m_X11_thrown (EE_st E) (GX X)  h262 _ hw) lk_L_114 (RM_mk (Nat.le_of_ble_eq_true rfl) (Nat.le_of_ble_eq_true rfl)) rfl rfl rfl rfl (Nat.le_of_ble_eq_true rfl) (adr_lt (Nat.le_of_ble_eq_true rfl)) (Nat.le_of_ble_eq_true rfl) (k1 := (k + 2)) (z1 := (z + 12)) rfl rfl (by omega) (by omega) dL_law_1613 (fun r263 u9 hw => ?_)
                                                    obtain ⟨rfl, hw⟩ := hw
                                                    refine r_iload E r259 rfl dL_law_1616 ?_
                                                    refine r_icmp_eq E 1623 (by decide) dL_law_1618 (fun c264 => ?_) (fun c264 => ?_)
                                                    · have hw := ite_t hw c264
                                                      refine r_iload E r259 rfl dL_law_1623 ?_
                                                      refine r_if_ne E 1647 (by decide) dL_law_1625 (fun c265 => ?_) (fun c265 => ?_)
                                                      · have hw := ite_t hw c265
                                                        refine r_aload_n E 75 0 rfl dL_law_1628 ?_
                                                        refine r_iconst E 0 rfl dL_law_1629 ?_
                                                        obtain ⟨i266, hw⟩ := hw
                                                        refine r_lald E rfl rfl rfl (Nat.le_of_ble_eq_true rfl) (adr_lt (Nat.le_of_ble_eq_true rfl)) i266 dL_law_1630 ?_
                                                        refine r_iload E r261 rfl dL_law_1631 ?_
                                                        refine r_if_eq E 1640 (by decide) dL_law_1633 (fun c267 => ?_) (fun c267 => ?_)
                                                        · have hw := ite_t hw c267
                                                          refine r_lconst E 0 rfl dL_law_1640 ?_
                                                          exact GG_weak [true, true, true, true, true, true, false, false, false] rfl (t_L_law_b1641 h262 x5 (gJ h262 75 0 (0 : Int32).toNatClampNeg) 0 Ls xs bs hSX k z hkb hzb hc E hE P28 hP28  hw)
                                                        · have hw := ite_f hw c267
                                                          refine r_lconst E 1 rfl dL_law_1636 ?_
                                                          refine r_goto E 1641 (by decide) dL_law_1637 ?_
                                                          exact GG_weak [true, true, true, true, true, true, false, false, false] rfl (t_L_law_b1641 h262 x5 (gJ h262 75 0 (0 : Int32).toNatClampNeg) 1 Ls xs bs hSX k z hkb hzb hc E hE P28 hP28  hw)
                                                      · have hw := ite_f hw c265
                                                        exact GG_weak [true, true, true, true, true, true, false, false, false] rfl (t_L_law_b1647 h262 x5 Ls xs bs hSX k z hkb hzb hc E hE P28 hP28  hw)
                                                    · have hw := ite_f hw c264
                                                      refine r_iconst E 0 rfl dL_law_1621 ?_
                                                      exact hE _ _ _ _ _ _ (by omega) (by omega) dL_law_1622 (isB_nar isB_0) ⟨isB_0, hw⟩
                                                  · have hw := ite_f hw c256
                                                    rcases Decidable.em (((xs x5.toNatClampNeg) &&& 31) = 24) with c268 | c268
                                                    · have hw := ite_t hw c268
                                                      refine r_tableI E 24 c268 (off := 1605) 1650 dL_law_45 (by decide) (by decide) rfl (by decide) ?_
                                                      refine r_aload_n E 10 0 rfl dL_law_1650 ?_
                                                      refine r_aloadS E rfl dL_law_1651 ?_
                                                      refine r_iload E x5 rfl dL_law_1652 ?_
                                                      refine r_iconst E 1 rfl dL_law_1654 ?_
                                                      refine r_iadd E dL_law_1655 ?_
                                                      obtain ⟨i269, hw⟩ := hw
                                                      refine r_sld E hSX i269 dL_law_1656 ?_
                                                      refine r_aloadS E rfl dL_law_1657 ?_
                                                      refine r_iload E x5 rfl dL_law_1658 ?_
                                                      refine r_iconst E 2 rfl dL_law_1660 ?_
                                                      refine r_iadd E dL_law_1661 ?_
                                                      obtain ⟨i270, hw⟩ := hw
                                                      refine r_sld E hSX i270 dL_law_1662 ?_
                                                      refine r_aload_n E 75 0 rfl dL_law_1663 ?_
                                                      refine r_callW E (m_L_areSame (EE_st E) (GX X) (xs (x5 + 1).toNatClampNeg) (xs (x5 + 2).toNatClampNeg) h _ hw) lk_L_196 lc_L_areSame (RM_mk (Nat.le_of_ble_eq_true rfl) (Nat.le_of_ble_eq_true rfl)) rfl rfl rfl rfl (Nat.le_of_ble_eq_true rfl) (k1 := (k + 2)) (z1 := (z + 12)) rfl rfl (by omega) (by omega) dL_law_1664 (fun r271 h272 hw => ?_)
                                                      refine r_istore E [some (.ref bs), some (rf X 10 0), some (rf X 11 0), some (rf X 75 0), some (rf X 76 0), some (.int x5), some (.int r271), none, none] (Nat.le_of_ble_eq_true rfl) rfl dL_law_1667 ?_
                                                      refine r_aload_n E 11 0 rfl dL_law_1669 ?_
                                                      refine r_aloadS E rfl dL_law_1670 ?_
                                                      refine r_iload E x5 rfl dL_law_1671 ?_
                                                      refine r_iconst E 1 rfl dL_law_1673 ?_
                                                      refine r_iadd E dL_law_1674 ?_
                                                      refine r_sld E hSX i269 dL_law_1675 ?_
                                                      refine r_aloadS E rfl dL_law_1676 ?_
                                                      refine r_iload E x5 rfl dL_law_1677 ?_
                                                      refine r_iconst E 2 rfl dL_law_1679 ?_
                                                      refine r_iadd E dL_law_1680 ?_
                                                      refine r_sld E hSX i270 dL_law_1681 ?_
                                                      refine r_callVI E (m_X11_areSame (EE_st E) (GX X) (xs (x5 + 1).toNatClampNeg) (xs (x5 + 2).toNatClampNeg) h272 _ hw) lk_L_198 (RM_mk (Nat.le_of_ble_eq_true rfl) (Nat.le_of_ble_eq_true rfl)) rfl rfl rfl rfl (Nat.le_of_ble_eq_true rfl) (adr_lt (Nat.le_of_ble_eq_true rfl)) (Nat.le_of_ble_eq_true rfl) (k1 := (k + 2)) (z1 := (z + 12)) rfl rfl (by omega) (by omega) dL_law_1682 (fun r273 h274 hw => ?_)
                                                      obtain ⟨zr273, hw⟩ := hw
                                                      refine r_istore E [some (.ref bs), some (rf X 10 0), some (rf X 11 0), some (rf X 75 0), some (rf X 76 0), some (.int x5), some (.int r271), some (.int r273), none] (Nat.le_of_ble_eq_true rfl) rfl dL_law_1685 ?_
                                                      refine r_aload_n E 11 0 rfl dL_law_1687 ?_
                                                      refine r_callVI E (m_X11_thrown (EE_st E) (GX X)  h274 _ hw) lk_L_114 (RM_mk (Nat.le_of_ble_eq_true rfl) (Nat.le_of_ble_eq_true rfl)) rfl rfl rfl rfl (Nat.le_of_ble_eq_true rfl) (adr_lt (Nat.le_of_ble_eq_true rfl)) (Nat.le_of_ble_eq_true rfl) (k1 := (k + 2)) (z1 := (z + 12)) rfl rfl (by omega) (by omega) dL_law_1688 (fun r275 u9 hw => ?_)
                                                      obtain ⟨rfl, hw⟩ := hw
                                                      refine r_iload E r271 rfl dL_law_1691 ?_
                                                      refine r_icmp_eq E 1698 (by decide) dL_law_1693 (fun c276 => ?_) (fun c276 => ?_)
                                                      · have hw := ite_t hw c276
                                                        refine r_iload E r271 rfl dL_law_1698 ?_
                                                        refine r_if_ne E 1722 (by decide) dL_law_1700 (fun c277 => ?_) (fun c277 => ?_)
                                                        · have hw := ite_t hw c277
                                                          refine r_aload_n E 75 0 rfl dL_law_1703 ?_
                                                          refine r_iconst E 0 rfl dL_law_1704 ?_
                                                          obtain ⟨i278, hw⟩ := hw
                                                          refine r_lald E rfl rfl rfl (Nat.le_of_ble_eq_true rfl) (adr_lt (Nat.le_of_ble_eq_true rfl)) i278 dL_law_1705 ?_
                                                          refine r_iload E r273 rfl dL_law_1706 ?_
                                                          refine r_if_eq E 1715 (by decide) dL_law_1708 (fun c279 => ?_) (fun c279 => ?_)
                                                          · have hw := ite_t hw c279
                                                            refine r_lconst E 0 rfl dL_law_1715 ?_
                                                            exact GG_weak [true, true, true, true, true, true, false, false, false] rfl (t_L_law_b1716 h274 x5 (gJ h274 75 0 (0 : Int32).toNatClampNeg) 0 Ls xs bs hSX k z hkb hzb hc E hE P28 hP28  hw)
                                                          · have hw := ite_f hw c279
                                                            refine r_lconst E 1 rfl dL_law_1711 ?_
                                                            refine r_goto E 1716 (by decide) dL_law_1712 ?_
                                                            exact GG_weak [true, true, true, true, true, true, false, false, false] rfl (t_L_law_b1716 h274 x5 (gJ h274 75 0 (0 : Int32).toNatClampNeg) 1 Ls xs bs hSX k z hkb hzb hc E hE P28 hP28  hw)
                                                        · have hw := ite_f hw c277
                                                          exact GG_weak [true, true, true, true, true, true, false, false, false] rfl (t_L_law_b1722 h274 x5 Ls xs bs hSX k z hkb hzb hc E hE P28 hP28  hw)
                                                      · have hw := ite_f hw c276
                                                        refine r_iconst E 0 rfl dL_law_1696 ?_
                                                        exact hE _ _ _ _ _ _ (by omega) (by omega) dL_law_1697 (isB_nar isB_0) ⟨isB_0, hw⟩
                                                    · have hw := ite_f hw c268
                                                      rcases Decidable.em (((xs x5.toNatClampNeg) &&& 31) = 25) with c280 | c280
                                                      · have hw := ite_t hw c280
                                                        refine r_tableI E 25 c280 (off := 1680) 1725 dL_law_45 (by decide) (by decide) rfl (by decide) ?_
                                                        refine r_aload_n E 10 0 rfl dL_law_1725 ?_
                                                        refine r_aloadS E rfl dL_law_1726 ?_
                                                        refine r_iload E x5 rfl dL_law_1727 ?_
                                                        refine r_iconst E 1 rfl dL_law_1729 ?_
                                                        refine r_iadd E dL_law_1730 ?_
                                                        obtain ⟨i281, hw⟩ := hw
                                                        refine r_sld E hSX i281 dL_law_1731 ?_
                                                        refine r_aload_n E 75 0 rfl dL_law_1732 ?_
                                                        refine r_callW E (m_L_learn (EE_st E) (GX X) (xs (x5 + 1).toNatClampNeg) h _ hw) lk_L_199 lc_L_learn (RM_mk (Nat.le_of_ble_eq_true rfl) (Nat.le_of_ble_eq_true rfl)) rfl rfl rfl rfl (Nat.le_of_ble_eq_true rfl) (k1 := (k + 2)) (z1 := (z + 12)) rfl rfl (by omega) (by omega) dL_law_1733 (fun r282 h283 hw => ?_)
                                                        refine r_istore E [some (.ref bs), some (rf X 10 0), some (rf X 11 0), some (rf X 75 0), some (rf X 76 0), some (.int x5), some (.int r282), none, none] (Nat.le_of_ble_eq_true rfl) rfl dL_law_1736 ?_
                                                        refine r_aload_n E 11 0 rfl dL_law_1738 ?_
                                                        refine r_aloadS E rfl dL_law_1739 ?_
                                                        refine r_iload E x5 rfl dL_law_1740 ?_
                                                        refine r_iconst E 1 rfl dL_law_1742 ?_
                                                        refine r_iadd E dL_law_1743 ?_
                                                        refine r_sld E hSX i281 dL_law_1744 ?_
                                                        refine r_callVI E (m_X11_learn (EE_st E) (GX X) (xs (x5 + 1).toNatClampNeg) h283 _ hw) lk_L_201 (RM_mk (Nat.le_of_ble_eq_true rfl) (Nat.le_of_ble_eq_true rfl)) rfl rfl rfl rfl (Nat.le_of_ble_eq_true rfl) (adr_lt (Nat.le_of_ble_eq_true rfl)) (Nat.le_of_ble_eq_true rfl) (k1 := (k + 2)) (z1 := (z + 12)) rfl rfl (by omega) (by omega) dL_law_1745 (fun r284 h285 hw => ?_)
                                                        refine r_istore E [some (.ref bs), some (rf X 10 0), some (rf X 11 0), some (rf X 75 0), some (rf X 76 0), some (.int x5), some (.int r282), some (.int r284), none] (Nat.le_of_ble_eq_true rfl) rfl dL_law_1748 ?_
                                                        refine r_aload_n E 11 0 rfl dL_law_1750 ?_
                                                        refine r_callVI E (m_X11_thrown (EE_st E) (GX X)  h285 _ hw) lk_L_114 (RM_mk (Nat.le_of_ble_eq_true rfl) (Nat.le_of_ble_eq_true rfl)) rfl rfl rfl rfl (Nat.le_of_ble_eq_true rfl) (adr_lt (Nat.le_of_ble_eq_true rfl)) (Nat.le_of_ble_eq_true rfl) (k1 := (k + 2)) (z1 := (z + 12)) rfl rfl (by omega) (by omega) dL_law_1751 (fun r286 u9 hw => ?_)
                                                        obtain ⟨rfl, hw⟩ := hw
                                                        refine r_iload E r282 rfl dL_law_1754 ?_
                                                        refine r_icmp_eq E 1761 (by decide) dL_law_1756 (fun c287 => ?_) (fun c287 => ?_)
                                                        · have hw := ite_t hw c287
                                                          refine r_iload E r282 rfl dL_law_1761 ?_
                                                          refine r_if_ne E 1778 (by decide) dL_law_1763 (fun c288 => ?_) (fun c288 => ?_)
                                                          · have hw := ite_t hw c288
                                                            refine r_aload_n E 75 0 rfl dL_law_1766 ?_
                                                            refine r_iconst E 0 rfl dL_law_1767 ?_
                                                            obtain ⟨i289, hw⟩ := hw
                                                            refine r_lald E rfl rfl rfl (Nat.le_of_ble_eq_true rfl) (adr_lt (Nat.le_of_ble_eq_true rfl)) i289 dL_law_1768 ?_
                                                            refine r_iload E r284 rfl dL_law_1769 ?_
                                                            refine r_i2l E dL_law_1771 ?_
                                                            refine r_lcmp_eq E 1778 (by decide) dL_law_1772 dL_law_1773 (fun c290 => ?_) (fun c290 => ?_)
                                                            · have hw := ite_t hw c290
                                                              exact GG_weak [true, true, true, true, true, true, false, false, false] rfl (t_L_law_b1778 h285 x5 Ls xs bs hSX k z hkb hzb hc E hE P28 hP28  hw)
                                                            · have hw := ite_f hw c290
                                                              refine r_iconst E 0 rfl dL_law_1776 ?_
                                                              exact hE _ _ _ _ _ _ (by omega) (by omega) dL_law_1777 (isB_nar isB_0) ⟨isB_0, hw⟩
                                                          · have hw := ite_f hw c288
                                                            exact GG_weak [true, true, true, true, true, true, false, false, false] rfl (t_L_law_b1778 h285 x5 Ls xs bs hSX k z hkb hzb hc E hE P28 hP28  hw)
                                                        · have hw := ite_f hw c287
                                                          refine r_iconst E 0 rfl dL_law_1759 ?_
                                                          exact hE _ _ _ _ _ _ (by omega) (by omega) dL_law_1760 (isB_nar isB_0) ⟨isB_0, hw⟩
                                                      · have hw := ite_f hw c280
                                                        rcases Decidable.em (((xs x5.toNatClampNeg) &&& 31) = 26) with c291 | c291
                                                        · have hw := ite_t hw c291
                                                          refine r_tableI E 26 c291 (off := 1736) 1781 dL_law_45 (by decide) (by decide) rfl (by decide) ?_
                                                          refine r_aload_n E 10 0 rfl dL_law_1781 ?_
                                                          refine r_callVL E (m_X10_sum (EE_st E) (GX X)  h _ hw) lk_L_202 (RM_mk (Nat.le_of_ble_eq_true rfl) (Nat.le_of_ble_eq_true rfl)) rfl rfl rfl rfl (Nat.le_of_ble_eq_true rfl) (adr_lt (Nat.le_of_ble_eq_true rfl)) (Nat.le_of_ble_eq_true rfl) (k1 := k) (z1 := z) rfl rfl (by omega) (by omega) dL_law_1782 (fun r292 u9 hw => ?_)
                                                          obtain ⟨rfl, hw⟩ := hw
                                                          refine r_aload_n E 11 0 rfl dL_law_1785 ?_
                                                          refine r_callVL E (m_X11_sum (EE_st E) (GX X)  h _ hw) lk_L_206 (RM_mk (Nat.le_of_ble_eq_true rfl) (Nat.le_of_ble_eq_true rfl)) rfl rfl rfl rfl (Nat.le_of_ble_eq_true rfl) (adr_lt (Nat.le_of_ble_eq_true rfl)) (Nat.le_of_ble_eq_true rfl) (k1 := k) (z1 := z) rfl rfl (by omega) (by omega) dL_law_1786 (fun r293 h294 hw => ?_)
                                                          refine r_lcmp_eq E 1951 (by decide) dL_law_1789 dL_law_1790 (fun c295 => ?_) (fun c295 => ?_)
                                                          · have hw := ite_t hw c295
                                                            exact GG_wid (by omega) (by omega) (GG_weak [true, true, true, true, true, true, false, false, false] rfl (t_L_law_b1951 h294 x5 Ls xs bs hSX k z hkb hzb hc E hE P28 hP28  hw))
                                                          · have hw := ite_f hw c295
                                                            refine r_iconst E 0 rfl dL_law_1793 ?_
                                                            exact hE _ _ _ _ _ _ (by omega) (by omega) dL_law_1794 (isB_nar isB_0) ⟨isB_0, hw⟩
                                                        · have hw := ite_f hw c291
                                                          rcases Decidable.em (((xs x5.toNatClampNeg) &&& 31) = 27) with c296 | c296
                                                          · have hw := ite_t hw c296
                                                            refine r_tableI E 27 c296 (off := 1750) 1795 dL_law_45 (by decide) (by decide) rfl (by decide) ?_
                                                            refine r_aload_n E 10 0 rfl dL_law_1795 ?_
                                                            refine r_aload E 76 0 rfl dL_law_1796 ?_
                                                            refine r_callW E (m_L_goneShare (EE_st E) (GX X)  h _ hw) lk_L_207 lc_L_goneShare (RM_mk (Nat.le_of_ble_eq_true rfl) (Nat.le_of_ble_eq_true rfl)) rfl rfl rfl rfl (Nat.le_of_ble_eq_true rfl) (k1 := (k + 1)) (z1 := (z + 6)) rfl rfl (by omega) (by omega) dL_law_1798 (fun r297 h298 hw => ?_)
                                                            refine r_istore E [some (.ref bs), some (rf X 10 0), some (rf X 11 0), some (rf X 75 0), some (rf X 76 0), some (.int x5), some (.int r297), none, none] (Nat.le_of_ble_eq_true rfl) rfl dL_law_1801 ?_
                                                            refine r_aload_n E 11 0 rfl dL_law_1803 ?_
                                                            refine r_callVF E (m_X11_goneShare (EE_st E) (GX X)  h298 _ hw) lk_L_210 (RM_mk (Nat.le_of_ble_eq_true rfl) (Nat.le_of_ble_eq_true rfl)) rfl rfl rfl rfl (Nat.le_of_ble_eq_true rfl) (adr_lt (Nat.le_of_ble_eq_true rfl)) (Nat.le_of_ble_eq_true rfl) (k1 := (k + 1)) (z1 := (z + 6)) rfl rfl (by omega) (by omega) dL_law_1804 (fun r299 h300 hw => ?_)
                                                            refine r_fstore E [some (.ref bs), some (rf X 10 0), some (rf X 11 0), some (rf X 75 0), some (rf X 76 0), some (.int x5), some (.int r297), some (.float r299), none] (Nat.le_of_ble_eq_true rfl) rfl dL_law_1807 ?_
                                                            refine r_aload_n E 11 0 rfl dL_law_1809 ?_
                                                            refine r_callVI E (m_X11_thrown (EE_st E) (GX X)  h300 _ hw) lk_L_114 (RM_mk (Nat.le_of_ble_eq_true rfl) (Nat.le_of_ble_eq_true rfl)) rfl rfl rfl rfl (Nat.le_of_ble_eq_true rfl) (adr_lt (Nat.le_of_ble_eq_true rfl)) (Nat.le_of_ble_eq_true rfl) (k1 := (k + 1)) (z1 := (z + 6)) rfl rfl (by omega) (by omega) dL_law_1810 (fun r301 u9 hw => ?_)
                                                            obtain ⟨rfl, hw⟩ := hw
                                                            refine r_iload E r297 rfl dL_law_1813 ?_
                                                            refine r_icmp_eq E 1820 (by decide) dL_law_1815 (fun c302 => ?_) (fun c302 => ?_)
                                                            · have hw := ite_t hw c302
                                                              refine r_iload E r297 rfl dL_law_1820 ?_
                                                              refine r_if_ne E 1858 (by decide) dL_law_1822 (fun c303 => ?_) (fun c303 => ?_)
                                                              · have hw := ite_t hw c303
                                                                refine r_aload E 76 0 rfl dL_law_1825 ?_
                                                                refine r_iconst E 0 rfl dL_law_1827 ?_
                                                                obtain ⟨i304, hw⟩ := hw
                                                                refine r_dald E rfl rfl rfl (Nat.le_of_ble_eq_true rfl) (adr_lt (Nat.le_of_ble_eq_true rfl)) i304 dL_law_1828 ?_
                                                                refine r_fload E r299 rfl dL_law_1829 ?_
                                                                obtain ⟨n305, hw⟩ := hw
                                                                refine r_f2d E n305 dL_law_1831 ?_
                                                                refine r_dcmp E dL_law_1832 ?_
                                                                refine r_if_eq E 1858 (by decide) dL_law_1833 (fun c306 => ?_) (fun c306 => ?_)
                                                                · have hw := ite_t hw c306
                                                                  exact GG_weak [true, true, true, true, true, true, false, false, false] rfl (t_L_law_b1858 h300 x5 Ls xs bs hSX k z hkb hzb hc E hE P28 hP28  hw)
                                                                · have hw := ite_f hw c306
                                                                  refine r_aload E 76 0 rfl dL_law_1836 ?_
                                                                  refine r_iconst E 0 rfl dL_law_1838 ?_
                                                                  refine r_dald E rfl rfl rfl (Nat.le_of_ble_eq_true rfl) (adr_lt (Nat.le_of_ble_eq_true rfl)) i304 dL_law_1839 ?_
                                                                  refine r_aload E 76 0 rfl dL_law_1840 ?_
                                                                  refine r_iconst E 0 rfl dL_law_1842 ?_
                                                                  refine r_dald E rfl rfl rfl (Nat.le_of_ble_eq_true rfl) (adr_lt (Nat.le_of_ble_eq_true rfl)) i304 dL_law_1843 ?_
                                                                  refine r_dcmp E dL_law_1844 ?_
                                                                  refine r_if_eq E 1856 (by decide) dL_law_1845 (fun c307 => ?_) (fun c307 => ?_)
                                                                  · have hw := ite_t hw c307
                                                                    refine r_iconst E 0 rfl dL_law_1856 ?_
                                                                    exact hE _ _ _ _ _ _ (by omega) (by omega) dL_law_1857 (isB_nar isB_0) ⟨isB_0, hw⟩
                                                                  · have hw := ite_f hw c307
                                                                    refine r_fload E r299 rfl dL_law_1848 ?_
                                                                    refine r_fload E r299 rfl dL_law_1850 ?_
                                                                    refine r_fcmp E dL_law_1852 ?_
                                                                    refine r_if_ne E 1858 (by decide) dL_law_1853 (fun c308 => ?_) (fun c308 => ?_)
                                                                    · have hw := ite_t hw c308
                                                                      refine r_iconst E 0 rfl dL_law_1856 ?_
                                                                      exact hE _ _ _ _ _ _ (by omega) (by omega) dL_law_1857 (isB_nar isB_0) ⟨isB_0, hw⟩
                                                                    · have hw := ite_f hw c308
                                                                      exact GG_weak [true, true, true, true, true, true, false, false, false] rfl (t_L_law_b1858 h300 x5 Ls xs bs hSX k z hkb hzb hc E hE P28 hP28  hw)
                                                              · have hw := ite_f hw c303
                                                                exact GG_weak [true, true, true, true, true, true, false, false, false] rfl (t_L_law_b1858 h300 x5 Ls xs bs hSX k z hkb hzb hc E hE P28 hP28  hw)
                                                            · have hw := ite_f hw c302
                                                              refine r_iconst E 0 rfl dL_law_1818 ?_
                                                              exact hE _ _ _ _ _ _ (by omega) (by omega) dL_law_1819 (isB_nar isB_0) ⟨isB_0, hw⟩
                                                          · have hw := ite_f hw c296
                                                            rcases Decidable.em (((xs x5.toNatClampNeg) &&& 31) = 28) with c309 | c309
                                                            · have hw := ite_t hw c309
                                                              refine r_tableI E 28 c309 (off := 1816) 1861 dL_law_45 (by decide) (by decide) rfl (by decide) ?_
                                                              refine r_aload_n E 10 0 rfl dL_law_1861 ?_
                                                              refine r_aloadS E rfl dL_law_1862 ?_
                                                              refine r_iload E x5 rfl dL_law_1863 ?_
                                                              refine r_iconst E 1 rfl dL_law_1865 ?_
                                                              refine r_iadd E dL_law_1866 ?_
                                                              obtain ⟨i310, hw⟩ := hw
                                                              refine r_sld E hSX i310 dL_law_1867 ?_
                                                              refine r_aload E 76 0 rfl dL_law_1868 ?_
                                                              refine r_callW E (m_L_meanSize (EE_st E) (GX X) (xs (x5 + 1).toNatClampNeg) h _ hw) lk_L_211 lc_L_meanSize (RM_mk (Nat.le_of_ble_eq_true rfl) (Nat.le_of_ble_eq_true rfl)) rfl rfl rfl rfl (Nat.le_of_ble_eq_true rfl) (k1 := (k + 2)) (z1 := (z + 12)) rfl rfl (by omega) (by omega) dL_law_1870 (fun r311 h312 hw => ?_)
                                                              refine r_istore E [some (.ref bs), some (rf X 10 0), some (rf X 11 0), some (rf X 75 0), some (rf X 76 0), some (.int x5), some (.int r311), none, none] (Nat.le_of_ble_eq_true rfl) rfl dL_law_1873 ?_
                                                              refine r_aload_n E 11 0 rfl dL_law_1875 ?_
                                                              refine r_aloadS E rfl dL_law_1876 ?_
                                                              refine r_iload E x5 rfl dL_law_1877 ?_
                                                              refine r_iconst E 1 rfl dL_law_1879 ?_
                                                              refine r_iadd E dL_law_1880 ?_
                                                              refine r_sld E hSX i310 dL_law_1881 ?_
                                                              refine r_callVD E (m_X11_meanSize (EE_st E) (GX X) (xs (x5 + 1).toNatClampNeg) h312 _ hw) lk_L_214 (RM_mk (Nat.le_of_ble_eq_true rfl) (Nat.le_of_ble_eq_true rfl)) rfl rfl rfl rfl (Nat.le_of_ble_eq_true rfl) (adr_lt (Nat.le_of_ble_eq_true rfl)) (Nat.le_of_ble_eq_true rfl) (k1 := (k + 2)) (z1 := (z + 12)) rfl rfl (by omega) (by omega) dL_law_1882 (fun r313 h314 hw => ?_)
                                                              refine r_dstore E [some (.ref bs), some (rf X 10 0), some (rf X 11 0), some (rf X 75 0), some (rf X 76 0), some (.int x5), some (.int r311), some (.double r313), none] (Nat.le_of_ble_eq_true rfl) rfl dL_law_1885 ?_
                                                              refine r_aload_n E 11 0 rfl dL_law_1887 ?_
                                                              refine r_callVI E (m_X11_thrown (EE_st E) (GX X)  h314 _ hw) lk_L_114 (RM_mk (Nat.le_of_ble_eq_true rfl) (Nat.le_of_ble_eq_true rfl)) rfl rfl rfl rfl (Nat.le_of_ble_eq_true rfl) (adr_lt (Nat.le_of_ble_eq_true rfl)) (Nat.le_of_ble_eq_true rfl) (k1 := (k + 2)) (z1 := (z + 12)) rfl rfl (by omega) (by omega) dL_law_1888 (fun r315 u9 hw => ?_)
                                                              obtain ⟨rfl, hw⟩ := hw
                                                              refine r_iload E r311 rfl dL_law_1891 ?_
                                                              refine r_icmp_eq E 1898 (by decide) dL_law_1893 (fun c316 => ?_) (fun c316 => ?_)
                                                              · have hw := ite_t hw c316
                                                                refine r_iload E r311 rfl dL_law_1898 ?_
                                                                refine r_if_ne E 1935 (by decide) dL_law_1900 (fun c317 => ?_) (fun c317 => ?_)
                                                                · have hw := ite_t hw c317
                                                                  refine r_aload E 76 0 rfl dL_law_1903 ?_
                                                                  refine r_iconst E 0 rfl dL_law_1905 ?_
                                                                  obtain ⟨i318, hw⟩ := hw
                                                                  refine r_dald E rfl rfl rfl (Nat.le_of_ble_eq_true rfl) (adr_lt (Nat.le_of_ble_eq_true rfl)) i318 dL_law_1906 ?_
                                                                  refine r_dload E r313 rfl dL_law_1907 ?_
                                                                  refine r_dcmp E dL_law_1909 ?_
                                                                  refine r_if_eq E 1935 (by decide) dL_law_1910 (fun c319 => ?_) (fun c319 => ?_)
                                                                  · have hw := ite_t hw c319
                                                                    exact GG_weak [true, true, true, true, true, true, false, false, false] rfl (t_L_law_b1935 h314 x5 Ls xs bs hSX k z hkb hzb hc E hE P28 hP28  hw)
                                                                  · have hw := ite_f hw c319
                                                                    refine r_aload E 76 0 rfl dL_law_1913 ?_
                                                                    refine r_iconst E 0 rfl dL_law_1915 ?_
                                                                    refine r_dald E rfl rfl rfl (Nat.le_of_ble_eq_true rfl) (adr_lt (Nat.le_of_ble_eq_true rfl)) i318 dL_law_1916 ?_
                                                                    refine r_aload E 76 0 rfl dL_law_1917 ?_
                                                                    refine r_iconst E 0 rfl dL_law_1919 ?_
                                                                    refine r_dald E rfl rfl rfl (Nat.le_of_ble_eq_true rfl) (adr_lt (Nat.le_of_ble_eq_true rfl)) i318 dL_law_1920 ?_
                                                                    refine r_dcmp E dL_law_1921 ?_
                                                                    refine r_if_eq E 1933 (by decide) dL_law_1922 (fun c320 => ?_) (fun c320 => ?_)
                                                                    · have hw := ite_t hw c320
                                                                      refine r_iconst E 0 rfl dL_law_1933 ?_
                                                                      exact hE _ _ _ _ _ _ (by omega) (by omega) dL_law_1934 (isB_nar isB_0) ⟨isB_0, hw⟩
                                                                    · have hw := ite_f hw c320
                                                                      refine r_dload E r313 rfl dL_law_1925 ?_
                                                                      refine r_dload E r313 rfl dL_law_1927 ?_
                                                                      refine r_dcmp E dL_law_1929 ?_
                                                                      refine r_if_ne E 1935 (by decide) dL_law_1930 (fun c321 => ?_) (fun c321 => ?_)
                                                                      · have hw := ite_t hw c321
                                                                        refine r_iconst E 0 rfl dL_law_1933 ?_
                                                                        exact hE _ _ _ _ _ _ (by omega) (by omega) dL_law_1934 (isB_nar isB_0) ⟨isB_0, hw⟩
                                                                      · have hw := ite_f hw c321
                                                                        exact GG_weak [true, true, true, true, true, true, false, false, false] rfl (t_L_law_b1935 h314 x5 Ls xs bs hSX k z hkb hzb hc E hE P28 hP28  hw)
                                                                · have hw := ite_f hw c317
                                                                  exact GG_weak [true, true, true, true, true, true, false, false, false] rfl (t_L_law_b1935 h314 x5 Ls xs bs hSX k z hkb hzb hc E hE P28 hP28  hw)
                                                              · have hw := ite_f hw c316
                                                                refine r_iconst E 0 rfl dL_law_1896 ?_
                                                                exact hE _ _ _ _ _ _ (by omega) (by omega) dL_law_1897 (isB_nar isB_0) ⟨isB_0, hw⟩
                                                            · have hw := ite_f hw c309
                                                              rcases Decidable.em (((xs x5.toNatClampNeg) &&& 31) = 29) with c322 | c322
                                                              · have hw := ite_t hw c322
                                                                refine r_tableI E 29 c322 (off := 1893) 1938 dL_law_45 (by decide) (by decide) rfl (by decide) ?_
                                                                refine r_aload_n E 10 0 rfl dL_law_1938 ?_
                                                                refine r_callVI E (m_X10_isTrue (EE_st E) (GX X)  h _ hw) lk_L_215 (RM_mk (Nat.le_of_ble_eq_true rfl) (Nat.le_of_ble_eq_true rfl)) rfl rfl rfl rfl (Nat.le_of_ble_eq_true rfl) (adr_lt (Nat.le_of_ble_eq_true rfl)) (Nat.le_of_ble_eq_true rfl) (k1 := k) (z1 := z) rfl rfl (by omega) (by omega) dL_law_1939 (fun r323 h324 hw => ?_)
                                                                obtain ⟨zr323, hw⟩ := hw
                                                                refine r_aload_n E 11 0 rfl dL_law_1942 ?_
                                                                refine r_callVI E (m_X11_isTrue (EE_st E) (GX X)  h324 _ hw) lk_L_219 (RM_mk (Nat.le_of_ble_eq_true rfl) (Nat.le_of_ble_eq_true rfl)) rfl rfl rfl rfl (Nat.le_of_ble_eq_true rfl) (adr_lt (Nat.le_of_ble_eq_true rfl)) (Nat.le_of_ble_eq_true rfl) (k1 := k) (z1 := z) rfl rfl (by omega) (by omega) dL_law_1943 (fun r325 h326 hw => ?_)
                                                                obtain ⟨zr325, hw⟩ := hw
                                                                refine r_icmp_eq E 1951 (by decide) dL_law_1946 (fun c327 => ?_) (fun c327 => ?_)
                                                                · have hw := ite_t hw c327
                                                                  exact GG_wid (by omega) (by omega) (GG_weak [true, true, true, true, true, true, false, false, false] rfl (t_L_law_b1951 h326 x5 Ls xs bs hSX k z hkb hzb hc E hE P28 hP28  hw))
                                                                · have hw := ite_f hw c327
                                                                  refine r_iconst E 0 rfl dL_law_1949 ?_
                                                                  exact hE _ _ _ _ _ _ (by omega) (by omega) dL_law_1950 (isB_nar isB_0) ⟨isB_0, hw⟩
                                                              · have hw := ite_f hw c322
                                                                have key : GG X k z NT h [some (.ref bs), some (rf X 10 0), some (rf X 11 0), some (rf X 75 0), some (rf X 76 0), some (.int x5), none, none, none] 1951 ([]) := by
                                                                  exact GG_wid (by omega) (by omega) (GG_weak [true, true, true, true, true, true, false, false, false] rfl (t_L_law_b1951 h x5 Ls xs bs hSX k z hkb hzb hc E hE P28 hP28  hw))
                                                                rcases Decidable.em (((xs x5.toNatClampNeg) &&& 31).toInt < 0 ∨ 29 < ((xs x5.toNatClampNeg) &&& 31).toInt) with cz | cz
                                                                · exact r_tableO E 1951 dL_law_45 cz (by decide) key
                                                                · exfalso
                                                                  have ec3 := lv_neT c3 (a := 0) rfl
                                                                  have ec18 := lv_neT c18 (a := 1) rfl
                                                                  have ec29 := lv_neT c29 (a := 2) rfl
                                                                  have ec41 := lv_neT c41 (a := 3) rfl
                                                                  have ec52 := lv_neT c52 (a := 4) rfl
                                                                  have ec63 := lv_neT c63 (a := 5) rfl
                                                                  have ec75 := lv_neT c75 (a := 6) rfl
                                                                  have ec87 := lv_neT c87 (a := 7) rfl
                                                                  have ec100 := lv_neT c100 (a := 8) rfl
                                                                  have ec112 := lv_neT c112 (a := 9) rfl
                                                                  have ec124 := lv_neT c124 (a := 10) rfl
                                                                  have ec138 := lv_neT c138 (a := 11) rfl
                                                                  have ec149 := lv_neT c149 (a := 12) rfl
                                                                  have ec162 := lv_neT c162 (a := 13) rfl
                                                                  have ec173 := lv_neT c173 (a := 14) rfl
                                                                  have ec185 := lv_neT c185 (a := 15) rfl
                                                                  have ec190 := lv_neT c190 (a := 16) rfl
                                                                  have ec201 := lv_neT c201 (a := 17) rfl
                                                                  have ec206 := lv_neT c206 (a := 18) rfl
                                                                  have ec217 := lv_neT c217 (a := 19) rfl
                                                                  have ec222 := lv_neT c222 (a := 20) rfl
                                                                  have ec233 := lv_neT c233 (a := 21) rfl
                                                                  have ec244 := lv_neT c244 (a := 22) rfl
                                                                  have ec256 := lv_neT c256 (a := 23) rfl
                                                                  have ec268 := lv_neT c268 (a := 24) rfl
                                                                  have ec280 := lv_neT c280 (a := 25) rfl
                                                                  have ec291 := lv_neT c291 (a := 26) rfl
                                                                  have ec296 := lv_neT c296 (a := 27) rfl
                                                                  have ec309 := lv_neT c309 (a := 28) rfl
                                                                  have ec322 := lv_neT c322 (a := 29) rfl
                                                                  omega
