/-! the layout of the world: clauses (0 to 11 the classes, from 12 on the arrays by owner and field), objects, addresses -/
-- 0 Filterbench$Handling: 0:tests 1:scripts 2:office 3:load 4:report 5:mail 6:truth 7:isTruthOld 8:hasSentOut 9:isOver
-- 1 Filterbench$Learner: 0:office 1:kinds 2:numbers 3:areContrary 4:misled 5:count 6:moved 7:others 8:first 9:second
-- 2 Filterbench$Mail: 0:sender 1:receivers 2:subject 3:body 4:size 5:weekday 6:box 7:flagBits 8:isDelivered 9:isGone 10:isMoved
-- 3 Filterbench$Office: 0:mails 1:quotas 2:copies 3:replyCounts 4:forwardCounts 5:replyDays 6:mailCount 7:today
-- 4 Filterbench$Reasoner: 0:tests 1:sketch 2:asked 3:askedCount 4:hold 5:fail 6:mayHold 7:mayFail 8:sureHold 9:sureFail 10:isToHoldFirst
-- 5 Filterbench$Report: 0:doneCodes 1:copied 2:outcome 3:flagBits 4:doneCount 5:clashCount 6:nestingFaults 7:forwardFaults 8:quotaFaults 9:forwards 10:rulesReached 11:isReplied
-- 6 Filterbench$Rule: 0:kinds 1:numbers 2:test 3:count
-- 7 Filterbench$Script: 0:rules 1:count
-- 8 Filterbench$Sketch: 0:senders 1:weekdays 2:leastSize 3:mostSize 4:receiving 5:notReceiving 6:leastReceivers 7:mostReceivers 8:fewest 9:most 10:inSubject 11:notInSubject 12:inBody 13:notInBody
-- 9 Filterbench$Tests: 0:kinds 1:firsts 2:seconds 3:steady 4:count
-- 10 Filterbench: 0:tests 1:office 2:scripts 3:handling 4:last 5:spare 6:reasoner 7:learner
-- 11 FilterbenchModel: 0:code 1:day 2:mails 3:sender 4:receivers 5:subject 6:body 7:size 8:came 9:isDelivered 10:isGone 11:box 12:flags 13:moved 14:quota 15:copies 16:replied 17:replies 18:sentOn 19:tests 20:kind 21:first 22:second 23:is 24:rules 25:ruleTest 26:many 27:what 28:with 29:deep 30:script 31:rule 32:action 33:chosen 34:goal 35:flagsNow 36:wasSent 37:sentTo 38:wasReplied 39:made 40:outcome 41:did 42:clashed 43:faultsI 44:faultsW 45:faultsQ 46:doneIn 47:lastDid 48:lastClashed 49:lastI 50:lastW 51:lastQ 52:lastFlags 53:lastIn 54:value 55:isUsed 56:used 57:choice 58:usedMany 59:isNeeded 60:canHold 61:canFail 62:sizes 63:looked 64:wanted 65:one 66:other 67:candidates 68:candidateKind 69:candidateOf
-- 12 Filterbench$Tests.kinds : C[60] x1
-- 13 Filterbench$Tests.firsts : I[60] x1
-- 14 Filterbench$Tests.seconds : I[60] x1
-- 15 Filterbench$Office.mails : M[40] x1
-- 16 Filterbench$Office.quotas : I[8] x1
-- 17 Filterbench$Office.copies : I[8] x1
-- 18 Filterbench$Office.replyCounts : I[10] x1
-- 19 Filterbench$Office.forwardCounts : I[10] x1
-- 20 Filterbench$Office.replyDays : I[10] x1
-- 21 Filterbench.scripts : S[4] x1
-- 22 Filterbench$Script.rules : R[12] x4
-- 23 Filterbench$Rule.kinds : C[5] x48
-- 24 Filterbench$Rule.numbers : I[5] x48
-- 25 Filterbench$Handling.load : I[8] x1
-- 26 Filterbench$Report.doneCodes : I[200] x3
-- 27 Filterbench$Report.copied : I[8] x3
-- 28 Filterbench$Reasoner.asked : I[60] x1
-- 29 Filterbench$Learner.kinds : C[99] x1
-- 30 Filterbench$Learner.numbers : I[99] x1
-- 31 Filterbench$Learner.areContrary : Z[99] x1
-- 32 Filterbench$Learner.misled : J[99] x1
-- 33 FilterbenchModel.sender : I[40] x1
-- 34 FilterbenchModel.receivers : I[40] x1
-- 35 FilterbenchModel.subject : I[40] x1
-- 36 FilterbenchModel.body : I[40] x1
-- 37 FilterbenchModel.size : I[40] x1
-- 38 FilterbenchModel.came : I[40] x1
-- 39 FilterbenchModel.isDelivered : Z[40] x1
-- 40 FilterbenchModel.isGone : Z[40] x1
-- 41 FilterbenchModel.box : I[40] x1
-- 42 FilterbenchModel.flags : I[40] x1
-- 43 FilterbenchModel.moved : I[40] x1
-- 44 FilterbenchModel.quota : I[8] x1
-- 45 FilterbenchModel.copies : I[8] x1
-- 46 FilterbenchModel.replied : I[10] x1
-- 47 FilterbenchModel.replies : I[10] x1
-- 48 FilterbenchModel.sentOn : I[10] x1
-- 49 FilterbenchModel.kind : C[60] x1
-- 50 FilterbenchModel.first : I[60] x1
-- 51 FilterbenchModel.second : I[60] x1
-- 52 FilterbenchModel.is : Z[60] x1
-- 53 FilterbenchModel.rules : I[4] x1
-- 54 FilterbenchModel.ruleTest : I[48] x1
-- 55 FilterbenchModel.many : I[48] x1
-- 56 FilterbenchModel.what : C[240] x1
-- 57 FilterbenchModel.with : I[240] x1
-- 58 FilterbenchModel.script : I[6] x1
-- 59 FilterbenchModel.rule : I[6] x1
-- 60 FilterbenchModel.action : I[6] x1
-- 61 FilterbenchModel.made : I[8] x1
-- 62 FilterbenchModel.doneIn : I[200] x1
-- 63 FilterbenchModel.lastIn : I[200] x1
-- 64 FilterbenchModel.value : I[45] x1
-- 65 FilterbenchModel.isUsed : Z[45] x1
-- 66 FilterbenchModel.used : I[45] x1
-- 67 FilterbenchModel.choice : I[45] x1
-- 68 FilterbenchModel.isNeeded : Z[60] x1
-- 69 FilterbenchModel.canHold : Z[60] x1
-- 70 FilterbenchModel.canFail : Z[60] x1
-- 71 FilterbenchModel.looked : I[61] x1
-- 72 FilterbenchModel.wanted : I[60] x1
-- 73 FilterbenchModel.candidateKind : C[200] x1
-- 74 FilterbenchModel.candidateOf : I[200] x1
-- 75 out.out : J[1] x1
-- 76 out.outD : D[1] x1
abbrev NT : Nat := 270
def nobjL : List Nat := [1, 1, 41, 1, 1, 3, 48, 4, 1, 1, 1, 1, 1, 1, 1, 1, 1, 1, 1, 1, 1, 1, 4, 48, 48, 1, 3, 3, 1, 1, 1, 1, 1, 1, 1, 1, 1, 1, 1, 1, 1, 1, 1, 1, 1, 1, 1, 1, 1, 1, 1, 1, 1, 1, 1, 1, 1, 1, 1, 1, 1, 1, 1, 1, 1, 1, 1, 1, 1, 1, 1, 1, 1, 1, 1, 1, 1]
def nobj (j : Nat) : Nat := nobjL.getD j 0
def ktab (j : Nat) : Nat := ([0, 0, 0, 0, 0, 0, 0, 0, 0, 0, 0, 0, 1, 1, 1, 3, 1, 1, 1, 1, 1, 3, 3, 1, 1, 1, 1, 1, 1, 1, 1, 1, 2, 1, 1, 1, 1, 1, 1, 1, 1, 1, 1, 1, 1, 1, 1, 1, 1, 1, 1, 1, 1, 1, 1, 1, 1, 1, 1, 1, 1, 1, 1, 1, 1, 1, 1, 1, 1, 1, 1, 1, 1, 1, 1, 2, 4] : List Nat).getD j 9
def ntab (j : Nat) : Nat := ([10, 10, 11, 8, 11, 12, 4, 2, 14, 5, 8, 70, 60, 60, 60, 40, 8, 8, 10, 10, 10, 4, 12, 5, 5, 8, 200, 8, 60, 99, 99, 99, 99, 40, 40, 40, 40, 40, 40, 40, 40, 40, 40, 40, 8, 8, 10, 10, 10, 60, 60, 60, 60, 4, 48, 48, 240, 240, 6, 6, 6, 8, 200, 200, 45, 45, 45, 45, 60, 60, 60, 61, 60, 200, 200, 1, 1] : List Nat).getD j 0
def atab (j : Nat) : Nat := ([0, 0, 0, 0, 0, 0, 0, 0, 0, 0, 0, 0, 0, 1, 1, 4, 1, 1, 1, 1, 1, 6, 5, 0, 1, 1, 1, 1, 1, 0, 1, 3, 2, 1, 1, 1, 1, 1, 1, 3, 3, 1, 1, 1, 1, 1, 1, 1, 1, 0, 1, 1, 3, 1, 1, 1, 0, 1, 1, 1, 1, 1, 1, 1, 1, 3, 1, 1, 3, 3, 3, 1, 1, 0, 1, 2, 7] : List Nat).getD j 0
def ftab (j k : Nat) : Nat := (([[2, 2, 2, 2, 2, 2, 1, 0, 0, 0], [2, 2, 2, 2, 2, 0, 1, 1, 0, 0], [0, 0, 0, 0, 0, 0, 0, 0, 0, 0, 0], [2, 2, 2, 2, 2, 2, 0, 0], [2, 2, 2, 0, 1, 1, 1, 1, 1, 1, 0], [2, 2, 0, 0, 0, 0, 0, 0, 0, 0, 0, 0], [2, 2, 0, 0], [2, 0], [0, 0, 0, 0, 0, 0, 0, 0, 0, 0, 0, 0, 0, 0], [2, 2, 2, 1, 0], [2, 2, 2, 2, 2, 2, 2, 2], [0, 0, 0, 2, 2, 2, 2, 2, 2, 2, 2, 2, 2, 2, 2, 2, 2, 2, 2, 0, 2, 2, 2, 2, 2, 2, 2, 2, 2, 0, 2, 2, 2, 0, 0, 0, 0, 0, 0, 2, 0, 0, 0, 0, 0, 0, 2, 0, 0, 0, 0, 0, 0, 2, 2, 2, 2, 2, 0, 2, 2, 2, 0, 2, 2, 0, 0, 0, 2, 2]] : List (List Nat)).getD j []).getD k 9
def rtabO (j k : Nat) : Nat := (([[9, 21, 3, 25, 5, 2, 0, 0, 0, 0], [3, 29, 30, 31, 32, 0, 0, 0, 0, 0], [0, 0, 0, 0, 0, 0, 0, 0, 0, 0, 0], [15, 16, 17, 18, 19, 20, 0, 0], [9, 8, 28, 0, 0, 0, 0, 0, 0, 0, 0], [26, 27, 0, 0, 0, 0, 0, 0, 0, 0, 0, 0], [23, 24, 0, 0], [22, 0], [0, 0, 0, 0, 0, 0, 0, 0, 0, 0, 0, 0, 0, 0], [12, 13, 14, 0, 0], [9, 3, 21, 0, 5, 5, 4, 1], [0, 0, 0, 33, 34, 35, 36, 37, 38, 39, 40, 41, 42, 43, 44, 45, 46, 47, 48, 0, 49, 50, 51, 52, 53, 54, 55, 56, 57, 0, 58, 59, 60, 0, 0, 0, 0, 0, 0, 61, 0, 0, 0, 0, 0, 0, 62, 0, 0, 0, 0, 0, 0, 63, 64, 65, 66, 67, 0, 68, 69, 70, 0, 71, 72, 0, 0, 0, 73, 74]] : List (List Nat)).getD j []).getD k 0
def rtabA (j : Nat) : Nat := ([0, 0, 0, 0, 0, 0, 0, 0, 0, 0, 0, 0, 0, 0, 0, 2, 0, 0, 0, 0, 0, 7, 6, 0, 0, 0, 0, 0, 0, 0, 0, 0, 0, 0, 0, 0, 0, 0, 0, 0, 0, 0, 0, 0, 0, 0, 0, 0, 0, 0, 0, 0, 0, 0, 0, 0, 0, 0, 0, 0, 0, 0, 0, 0, 0, 0, 0, 0, 0, 0, 0, 0, 0, 0, 0, 0, 0] : List Nat).getD j 0
def rtab (j k : Nat) : Nat := if j < 12 then rtabO j k else rtabA j
def stabO (j k : Nat) : Nat := (([[1, 1, 1, 1, 0, 0, 0, 0, 0, 0], [1, 1, 1, 1, 1, 0, 0, 0, 0, 0], [0, 0, 0, 0, 0, 0, 0, 0, 0, 0, 0], [1, 1, 1, 1, 1, 1, 0, 0], [1, 1, 1, 0, 0, 0, 0, 0, 0, 0, 0], [4, 4, 0, 0, 0, 0, 0, 0, 0, 0, 0, 0], [4, 4, 0, 0], [4, 0], [0, 0, 0, 0, 0, 0, 0, 0, 0, 0, 0, 0, 0, 0], [1, 1, 1, 0, 0], [1, 1, 1, 1, 2, 3, 1, 1], [0, 0, 0, 1, 1, 1, 1, 1, 1, 1, 1, 1, 1, 1, 1, 1, 1, 1, 1, 0, 1, 1, 1, 1, 1, 1, 1, 1, 1, 0, 1, 1, 1, 0, 0, 0, 0, 0, 0, 1, 0, 0, 0, 0, 0, 0, 1, 0, 0, 0, 0, 0, 0, 1, 1, 1, 1, 1, 0, 1, 1, 1, 0, 1, 1, 0, 0, 0, 1, 1]] : List (List Nat)).getD j []).getD k 0
def stabA (j : Nat) : Nat := ([0, 0, 0, 0, 0, 0, 0, 0, 0, 0, 0, 0, 0, 0, 0, 5, 0, 0, 0, 0, 0, 5, 0, 0, 0, 0, 0, 0, 0, 0, 0, 0, 0, 0, 0, 0, 0, 0, 0, 0, 0, 0, 0, 0, 0, 0, 0, 0, 0, 0, 0, 0, 0, 0, 0, 0, 0, 0, 0, 0, 0, 0, 0, 0, 0, 0, 0, 0, 0, 0, 0, 0, 0, 0, 0, 0, 0] : List Nat).getD j 0
def stab (j k : Nat) : Nat := if j < 12 then stabO j k else stabA j
def srf (j o k : Nat) : Nat := match stab j k with
  | 0 => 0
  | 1 => 1
  | 2 => 2
  | 3 => 3
  | 4 => o + 1
  | _ => k + 1
def adrL : List Nat := [205, 220, 12, 5, 217, 207, 55, 53, 218, 1, 0, 225, 2, 3, 4, 6, 7, 8, 9, 10, 11, 52, 54, 56, 57, 206, 208, 209, 219, 221, 222, 223, 224, 226, 227, 228, 229, 230, 231, 232, 233, 234, 235, 236, 237, 238, 239, 240, 241, 242, 243, 244, 245, 246, 247, 248, 249, 250, 251, 252, 253, 254, 255, 256, 257, 258, 259, 260, 261, 262, 263, 264, 265, 266, 267, 268, 269]
def adr (j o : Nat) : Nat := if j = 2 then (if o < 40 then 12 + o else 210) else if j = 6 ∨ j = 23 ∨ j = 24 then adrL.getD j 0 + 38 * (o / 12) + 3 * (o % 12) else if j = 7 ∨ j = 22 then adrL.getD j 0 + 38 * o else if j = 5 ∨ j = 26 ∨ j = 27 then (if o = 0 then adrL.getD j 0 else adrL.getD j 0 + 1 + 3 * o) else adrL.getD j 0
def layL : List (Nat × Nat) := [(10, 0), (9, 0), (12, 0), (13, 0), (14, 0), (3, 0), (15, 0), (16, 0), (17, 0), (18, 0), (19, 0), (20, 0), (2, 0), (2, 1), (2, 2), (2, 3), (2, 4), (2, 5), (2, 6), (2, 7), (2, 8), (2, 9), (2, 10), (2, 11), (2, 12), (2, 13), (2, 14), (2, 15), (2, 16), (2, 17), (2, 18), (2, 19), (2, 20), (2, 21), (2, 22), (2, 23), (2, 24), (2, 25), (2, 26), (2, 27), (2, 28), (2, 29), (2, 30), (2, 31), (2, 32), (2, 33), (2, 34), (2, 35), (2, 36), (2, 37), (2, 38), (2, 39), (21, 0), (7, 0), (22, 0), (6, 0), (23, 0), (24, 0), (6, 1), (23, 1), (24, 1), (6, 2), (23, 2), (24, 2), (6, 3), (23, 3), (24, 3), (6, 4), (23, 4), (24, 4), (6, 5), (23, 5), (24, 5), (6, 6), (23, 6), (24, 6), (6, 7), (23, 7), (24, 7), (6, 8), (23, 8), (24, 8), (6, 9), (23, 9), (24, 9), (6, 10), (23, 10), (24, 10), (6, 11), (23, 11), (24, 11), (7, 1), (22, 1), (6, 12), (23, 12), (24, 12), (6, 13), (23, 13), (24, 13), (6, 14), (23, 14), (24, 14), (6, 15), (23, 15), (24, 15), (6, 16), (23, 16), (24, 16), (6, 17), (23, 17), (24, 17), (6, 18), (23, 18), (24, 18), (6, 19), (23, 19), (24, 19), (6, 20), (23, 20), (24, 20), (6, 21), (23, 21), (24, 21), (6, 22), (23, 22), (24, 22), (6, 23), (23, 23), (24, 23), (7, 2), (22, 2), (6, 24), (23, 24), (24, 24), (6, 25), (23, 25), (24, 25), (6, 26), (23, 26), (24, 26), (6, 27), (23, 27), (24, 27), (6, 28), (23, 28), (24, 28), (6, 29), (23, 29), (24, 29), (6, 30), (23, 30), (24, 30), (6, 31), (23, 31), (24, 31), (6, 32), (23, 32), (24, 32), (6, 33), (23, 33), (24, 33), (6, 34), (23, 34), (24, 34), (6, 35), (23, 35), (24, 35), (7, 3), (22, 3), (6, 36), (23, 36), (24, 36), (6, 37), (23, 37), (24, 37), (6, 38), (23, 38), (24, 38), (6, 39), (23, 39), (24, 39), (6, 40), (23, 40), (24, 40), (6, 41), (23, 41), (24, 41), (6, 42), (23, 42), (24, 42), (6, 43), (23, 43), (24, 43), (6, 44), (23, 44), (24, 44), (6, 45), (23, 45), (24, 45), (6, 46), (23, 46), (24, 46), (6, 47), (23, 47), (24, 47), (0, 0), (25, 0), (5, 0), (26, 0), (27, 0), (2, 40), (5, 1), (26, 1), (27, 1), (5, 2), (26, 2), (27, 2), (4, 0), (8, 0), (28, 0), (1, 0), (29, 0), (30, 0), (31, 0), (32, 0), (11, 0), (33, 0), (34, 0), (35, 0), (36, 0), (37, 0), (38, 0), (39, 0), (40, 0), (41, 0), (42, 0), (43, 0), (44, 0), (45, 0), (46, 0), (47, 0), (48, 0), (49, 0), (50, 0), (51, 0), (52, 0), (53, 0), (54, 0), (55, 0), (56, 0), (57, 0), (58, 0), (59, 0), (60, 0), (61, 0), (62, 0), (63, 0), (64, 0), (65, 0), (66, 0), (67, 0), (68, 0), (69, 0), (70, 0), (71, 0), (72, 0), (73, 0), (74, 0), (75, 0), (76, 0)]
def lay (k : Nat) : Nat × Nat := layL.getD k (99, 0)
def fCs (j : Nat) : String := ([RX0, RX1, RX2, RX3, RX4, RX5, RX6, RX7, RX8, RX9, RX10, RX11] : List String).getD j ""
def fT (j : Nat) : u_T := match j with
  | 0 => TX0
  | 1 => TX1
  | 2 => TX2
  | 3 => TX3
  | 4 => TX4
  | 5 => TX5
  | 6 => TX6
  | 7 => TX7
  | 8 => TX8
  | 9 => TX9
  | 10 => TX10
  | _ => TX11
def fTy (j : Nat) : Nat → FieldType := match j with
  | 0 => tyX0
  | 1 => tyX1
  | 2 => tyX2
  | 3 => tyX3
  | 4 => tyX4
  | 5 => tyX5
  | 6 => tyX6
  | 7 => tyX7
  | 8 => tyX8
  | 9 => tyX9
  | 10 => tyX10
  | _ => tyX11
def atyL : List FieldType := [.char, .int, .long, .boolean, .object RX2, .object RX6, .object RX7, .double]
