def f_L_law_18 (L : Nat) (xs : Nat → Int32) : Nat → zM → Int32 → Option (Int32 × zM)
  | 0, _, _ => none
  | n + 1, M, x3 => if ((Int32.ofNat L) - (4 : Int32)) < x3 then (some ((1 : Int32), M)) else (zg (zin x3 L) (if ((xs x3.toNatClampNeg) &&& (31 : Int32)) = (0 : Int32) then (zg (zin (x3 + (1 : Int32)) L) (zbi (f_X11_type M (xs (x3 + (1 : Int32)).toNatClampNeg)) (fun r6 M7 => zg (zin (x3 + (1 : Int32)) L) (zbi (f_X12_type M7 (xs (x3 + (1 : Int32)).toNatClampNeg)) (fun r10 M11 => if r6 = r10 then (f_L_law_18 L xs n M11 (x3 + (4 : Int32))) else (some ((0 : Int32), M11))))))) else if ((xs x3.toNatClampNeg) &&& (31 : Int32)) = (1 : Int32) then (zbi (f_X11_clear M) (fun r15 M16 => zbi (f_X12_clear M16) (fun r18 M19 => if r15 = r18 then (f_L_law_18 L xs n M19 (x3 + (4 : Int32))) else (some ((0 : Int32), M19))))) else if ((xs x3.toNatClampNeg) &&& (31 : Int32)) = (2 : Int32) then (zbi (f_X11_door M) (fun r23 M24 => zbi (f_X12_door M24) (fun r26 M27 => if r23 = r26 then (f_L_law_18 L xs n M27 (x3 + (4 : Int32))) else (some ((0 : Int32), M27))))) else if ((xs x3.toNatClampNeg) &&& (31 : Int32)) = (3 : Int32) then (zg (zin (x3 + (1 : Int32)) L) (zg (zin (x3 + (2 : Int32)) L) (zbi (f_X11_sort M (xs (x3 + (1 : Int32)).toNatClampNeg) (xs (x3 + (2 : Int32)).toNatClampNeg)) (fun r33 M34 => zg (zin (x3 + (1 : Int32)) L) (zg (zin (x3 + (2 : Int32)) L) (zbi (f_X12_sort M34 (xs (x3 + (1 : Int32)).toNatClampNeg) (xs (x3 + (2 : Int32)).toNatClampNeg)) (fun r38 M39 => if r33 = r38 then (f_L_law_18 L xs n M39 (x3 + (4 : Int32))) else (some ((0 : Int32), M39))))))))) else if ((xs x3.toNatClampNeg) &&& (31 : Int32)) = (4 : Int32) then (zg (zin (x3 + (1 : Int32)) L) (zg (zin (x3 + (2 : Int32)) L) (zbi (f_X11_goer M (xs (x3 + (1 : Int32)).toNatClampNeg) (xs (x3 + (2 : Int32)).toNatClampNeg)) (fun r45 M46 => zg (zin (x3 + (1 : Int32)) L) (zg (zin (x3 + (2 : Int32)) L) (zbi (f_X12_goer M46 (xs (x3 + (1 : Int32)).toNatClampNeg) (xs (x3 + (2 : Int32)).toNatClampNeg)) (fun r50 M51 => if r45 = r50 then (f_L_law_18 L xs n M51 (x3 + (4 : Int32))) else (some ((0 : Int32), M51))))))))) else if ((xs x3.toNatClampNeg) &&& (31 : Int32)) = (5 : Int32) then (zg (zin (x3 + (1 : Int32)) L) (zg (zin (x3 + (2 : Int32)) L) (zbi (f_X11_room M (xs (x3 + (1 : Int32)).toNatClampNeg) (xs (x3 + (2 : Int32)).toNatClampNeg)) (fun r57 M58 => zg (zin (x3 + (1 : Int32)) L) (zg (zin (x3 + (2 : Int32)) L) (zbi (f_X12_room M58 (xs (x3 + (1 : Int32)).toNatClampNeg) (xs (x3 + (2 : Int32)).toNatClampNeg)) (fun r62 M63 => if r57 = r62 then (f_L_law_18 L xs n M63 (x3 + (4 : Int32))) else (some ((0 : Int32), M63))))))))) else if ((xs x3.toNatClampNeg) &&& (31 : Int32)) = (6 : Int32) then (zg (zin (x3 + (1 : Int32)) L) (zbi (f_X11_now M (xs (x3 + (1 : Int32)).toNatClampNeg)) (fun r68 M69 => zg (zin (x3 + (1 : Int32)) L) (zbi (f_X12_now M69 (xs (x3 + (1 : Int32)).toNatClampNeg)) (fun r72 M73 => if r68 = r72 then (f_L_law_18 L xs n M73 (x3 + (4 : Int32))) else (some ((0 : Int32), M73))))))) else if ((xs x3.toNatClampNeg) &&& (31 : Int32)) = (7 : Int32) then (zg (zin (x3 + (1 : Int32)) L) (zg (zin (x3 + (2 : Int32)) L) (zbi (f_X11_comes M (xs (x3 + (1 : Int32)).toNatClampNeg) (xs (x3 + (2 : Int32)).toNatClampNeg)) (fun r79 M80 => zg (zin (x3 + (1 : Int32)) L) (zg (zin (x3 + (2 : Int32)) L) (zbi (f_X12_comes M80 (xs (x3 + (1 : Int32)).toNatClampNeg) (xs (x3 + (2 : Int32)).toNatClampNeg)) (fun r84 M85 => if r79 = r84 then (f_L_law_18 L xs n M85 (x3 + (4 : Int32))) else (some ((0 : Int32), M85))))))))) else if ((xs x3.toNatClampNeg) &&& (31 : Int32)) = (8 : Int32) then (zbi (f_X11_steps M) (fun r89 M90 => zbi (f_X12_steps M90) (fun r92 M93 => if r89 = r92 then (f_L_law_18 L xs n M93 (x3 + (4 : Int32))) else (some ((0 : Int32), M93))))) else if ((xs x3.toNatClampNeg) &&& (31 : Int32)) = (9 : Int32) then (zg (zin (x3 + (1 : Int32)) L) (zbi (f_X11_leaves M (xs (x3 + (1 : Int32)).toNatClampNeg)) (fun r98 M99 => zg (zin (x3 + (1 : Int32)) L) (zbi (f_X12_leaves M99 (xs (x3 + (1 : Int32)).toNatClampNeg)) (fun r102 M103 => if r98 = r102 then (f_L_law_18 L xs n M103 (x3 + (4 : Int32))) else (some ((0 : Int32), M103))))))) else if ((xs x3.toNatClampNeg) &&& (31 : Int32)) = (10 : Int32) then (zg (zin (x3 + (1 : Int32)) L) (zbi (f_X11_lets M (xs (x3 + (1 : Int32)).toNatClampNeg)) (fun r108 M109 => zg (zin (x3 + (1 : Int32)) L) (zbi (f_X12_lets M109 (xs (x3 + (1 : Int32)).toNatClampNeg)) (fun r112 M113 => if r108 = r112 then (f_L_law_18 L xs n M113 (x3 + (4 : Int32))) else (some ((0 : Int32), M113))))))) else if ((xs x3.toNatClampNeg) &&& (31 : Int32)) = (11 : Int32) then (zbi (f_X11_undo M) (fun r117 M118 => zbi (f_X12_undo M118) (fun r120 M121 => if r117 = r120 then (f_L_law_18 L xs n M121 (x3 + (4 : Int32))) else (some ((0 : Int32), M121))))) else if ((xs x3.toNatClampNeg) &&& (31 : Int32)) = (12 : Int32) then (zg (zin (x3 + (1 : Int32)) L) (zbi (f_X11_spare M (xs (x3 + (1 : Int32)).toNatClampNeg)) (fun r126 M127 => zg (zin (x3 + (1 : Int32)) L) (zbi (f_X12_spare M127 (xs (x3 + (1 : Int32)).toNatClampNeg)) (fun r130 M131 => if r126 = r130 then (f_L_law_18 L xs n M131 (x3 + (4 : Int32))) else (some ((0 : Int32), M131))))))) else if ((xs x3.toNatClampNeg) &&& (31 : Int32)) = (13 : Int32) then (zg (zin (x3 + (1 : Int32)) L) (zbi (f_X11_ahead M (xs (x3 + (1 : Int32)).toNatClampNeg)) (fun r136 M137 => zg (zin (x3 + (1 : Int32)) L) (zbi (f_X12_ahead M137 (xs (x3 + (1 : Int32)).toNatClampNeg)) (fun r140 M141 => if r136 = r140 then (f_L_law_18 L xs n M141 (x3 + (4 : Int32))) else (some ((0 : Int32), M141))))))) else if ((xs x3.toNatClampNeg) &&& (31 : Int32)) = (14 : Int32) then (zg (zin (x3 + (1 : Int32)) L) (zg (zin (x3 + (2 : Int32)) L) (zbi (f_X11_odds M (xs (x3 + (1 : Int32)).toNatClampNeg) (xs (x3 + (2 : Int32)).toNatClampNeg)) (fun r147 M148 => zg (zin (x3 + (1 : Int32)) L) (zg (zin (x3 + (2 : Int32)) L) (zbi (f_X12_odds M148 (xs (x3 + (1 : Int32)).toNatClampNeg) (xs (x3 + (2 : Int32)).toNatClampNeg)) (fun r152 M153 => if r147 = r152 then (f_L_law_18 L xs n M153 (x3 + (4 : Int32))) else (some ((0 : Int32), M153))))))))) else if ((xs x3.toNatClampNeg) &&& (31 : Int32)) = (15 : Int32) then (zg (zin (x3 + (1 : Int32)) L) (zg (zin (x3 + (2 : Int32)) L) (zg (zin (x3 + (3 : Int32)) L) (zbi (f_X11_sees M (xs (x3 + (1 : Int32)).toNatClampNeg) (xs (x3 + (2 : Int32)).toNatClampNeg) (xs (x3 + (3 : Int32)).toNatClampNeg)) (fun r160 M161 => zg (zin (x3 + (1 : Int32)) L) (zg (zin (x3 + (2 : Int32)) L) (zg (zin (x3 + (3 : Int32)) L) (zbi (f_X12_sees M161 (xs (x3 + (1 : Int32)).toNatClampNeg) (xs (x3 + (2 : Int32)).toNatClampNeg) (xs (x3 + (3 : Int32)).toNatClampNeg)) (fun r166 M167 => if r160 = r166 then (f_L_law_18 L xs n M167 (x3 + (4 : Int32))) else (some ((0 : Int32), M167))))))))))) else if ((xs x3.toNatClampNeg) &&& (31 : Int32)) = (16 : Int32) then (zbi (f_X11_forget M) (fun r171 M172 => zbi (f_X12_forget M172) (fun r174 M175 => if r171 = r174 then (f_L_law_18 L xs n M175 (x3 + (4 : Int32))) else (some ((0 : Int32), M175))))) else if ((xs x3.toNatClampNeg) &&& (31 : Int32)) = (17 : Int32) then (zbi (f_X11_which M) (fun r179 M180 => zbi (f_X12_which M180) (fun r182 M183 => if r179 = r182 then (f_L_law_18 L xs n M183 (x3 + (4 : Int32))) else (some ((0 : Int32), M183))))) else if ((xs x3.toNatClampNeg) &&& (31 : Int32)) = (18 : Int32) then (zg (zin (x3 + (1 : Int32)) L) (zbi (f_X11_look M (xs (x3 + (1 : Int32)).toNatClampNeg)) (fun r188 M189 => zg (zin (x3 + (1 : Int32)) L) (zbi (f_X12_look M189 (xs (x3 + (1 : Int32)).toNatClampNeg)) (fun r192 M193 => if r188 = r192 then (f_L_law_18 L xs n M193 (x3 + (4 : Int32))) else (some ((0 : Int32), M193))))))) else if ((xs x3.toNatClampNeg) &&& (31 : Int32)) = (19 : Int32) then (zg (zin (x3 + (1 : Int32)) L) (zg (zin (x3 + (2 : Int32)) L) (zbi (f_X11_rate M (xs (x3 + (1 : Int32)).toNatClampNeg) (xs (x3 + (2 : Int32)).toNatClampNeg)) (fun r199 M200 => zg (zin (x3 + (1 : Int32)) L) (zg (zin (x3 + (2 : Int32)) L) (zbi (f_X12_rate M200 (xs (x3 + (1 : Int32)).toNatClampNeg) (xs (x3 + (2 : Int32)).toNatClampNeg)) (fun r204 M205 => if r199 = r204 then (f_L_law_18 L xs n M205 (x3 + (4 : Int32))) else (some ((0 : Int32), M205))))))))) else if ((xs x3.toNatClampNeg) &&& (31 : Int32)) = (20 : Int32) then (zg (zin (x3 + (1 : Int32)) L) (zbi (f_X11_keep M (xs (x3 + (1 : Int32)).toNatClampNeg)) (fun r210 M211 => zg (zin (x3 + (1 : Int32)) L) (zbi (f_X12_keep M211 (xs (x3 + (1 : Int32)).toNatClampNeg)) (fun r214 M215 => if r210 = r214 then (f_L_law_18 L xs n M215 (x3 + (4 : Int32))) else (some ((0 : Int32), M215))))))) else if ((xs x3.toNatClampNeg) &&& (31 : Int32)) = (21 : Int32) then (zg (zin (x3 + (1 : Int32)) L) (zbi (f_X11_back M (xs (x3 + (1 : Int32)).toNatClampNeg)) (fun r220 M221 => zg (zin (x3 + (1 : Int32)) L) (zbi (f_X12_back M221 (xs (x3 + (1 : Int32)).toNatClampNeg)) (fun r224 M225 => if r220 = r224 then (f_L_law_18 L xs n M225 (x3 + (4 : Int32))) else (some ((0 : Int32), M225))))))) else if ((xs x3.toNatClampNeg) &&& (31 : Int32)) = (22 : Int32) then (zg (zin (x3 + (1 : Int32)) L) (zbi (f_X11_count M (xs (x3 + (1 : Int32)).toNatClampNeg)) (fun r230 M231 => zg (zin (x3 + (1 : Int32)) L) (zbi (f_X12_count M231 (xs (x3 + (1 : Int32)).toNatClampNeg)) (fun r234 M235 => if r230 = r234 then (f_L_law_18 L xs n M235 (x3 + (4 : Int32))) else (some ((0 : Int32), M235))))))) else if ((xs x3.toNatClampNeg) &&& (31 : Int32)) = (23 : Int32) then (zbi (f_X11_trace M) (fun r239 M240 => zbi (f_X12_trace M240) (fun r242 M243 => if (lg_cmp r239 r242) = 0 then (f_L_law_18 L xs n M243 (x3 + (4 : Int32))) else (some ((0 : Int32), M243))))) else (f_L_law_18 L xs n M (x3 + (4 : Int32)))))
set_option maxRecDepth 100000 in
set_option maxHeartbeats 4000000 in
theorem p_L_law_18 {X : zX} {E : zE} {b : Nat} {L : Nat} {xs : Nat → Int32} {M' : zM} (C : zC X E cL_law 4 RL ret 9) (hsc : zSc X E b L xs) (hlw : zLw X E b) : ∀ (n : Nat) (M : zM) (x3 : Int32), f_L_law_18 L xs n M x3 = some ((1 : Int32), M') → zW X E (zLQ X) M 18 [(0, .ref b), (1, .ref (E.2.1 0)), (2, .ref (E.2.1 25)), (3, .int x3)] [] := by
  intro n
  induction n with
  | zero => intro M x3 h; cases h
  | succ n ih =>
    intro M x3 h
    have h : (if ((Int32.ofNat L) - (4 : Int32)) < x3 then (some ((1 : Int32), M)) else (zg (zin x3 L) (if ((xs x3.toNatClampNeg) &&& (31 : Int32)) = (0 : Int32) then (zg (zin (x3 + (1 : Int32)) L) (zbi (f_X11_type M (xs (x3 + (1 : Int32)).toNatClampNeg)) (fun r6 M7 => zg (zin (x3 + (1 : Int32)) L) (zbi (f_X12_type M7 (xs (x3 + (1 : Int32)).toNatClampNeg)) (fun r10 M11 => if r6 = r10 then (f_L_law_18 L xs n M11 (x3 + (4 : Int32))) else (some ((0 : Int32), M11))))))) else if ((xs x3.toNatClampNeg) &&& (31 : Int32)) = (1 : Int32) then (zbi (f_X11_clear M) (fun r15 M16 => zbi (f_X12_clear M16) (fun r18 M19 => if r15 = r18 then (f_L_law_18 L xs n M19 (x3 + (4 : Int32))) else (some ((0 : Int32), M19))))) else if ((xs x3.toNatClampNeg) &&& (31 : Int32)) = (2 : Int32) then (zbi (f_X11_door M) (fun r23 M24 => zbi (f_X12_door M24) (fun r26 M27 => if r23 = r26 then (f_L_law_18 L xs n M27 (x3 + (4 : Int32))) else (some ((0 : Int32), M27))))) else if ((xs x3.toNatClampNeg) &&& (31 : Int32)) = (3 : Int32) then (zg (zin (x3 + (1 : Int32)) L) (zg (zin (x3 + (2 : Int32)) L) (zbi (f_X11_sort M (xs (x3 + (1 : Int32)).toNatClampNeg) (xs (x3 + (2 : Int32)).toNatClampNeg)) (fun r33 M34 => zg (zin (x3 + (1 : Int32)) L) (zg (zin (x3 + (2 : Int32)) L) (zbi (f_X12_sort M34 (xs (x3 + (1 : Int32)).toNatClampNeg) (xs (x3 + (2 : Int32)).toNatClampNeg)) (fun r38 M39 => if r33 = r38 then (f_L_law_18 L xs n M39 (x3 + (4 : Int32))) else (some ((0 : Int32), M39))))))))) else if ((xs x3.toNatClampNeg) &&& (31 : Int32)) = (4 : Int32) then (zg (zin (x3 + (1 : Int32)) L) (zg (zin (x3 + (2 : Int32)) L) (zbi (f_X11_goer M (xs (x3 + (1 : Int32)).toNatClampNeg) (xs (x3 + (2 : Int32)).toNatClampNeg)) (fun r45 M46 => zg (zin (x3 + (1 : Int32)) L) (zg (zin (x3 + (2 : Int32)) L) (zbi (f_X12_goer M46 (xs (x3 + (1 : Int32)).toNatClampNeg) (xs (x3 + (2 : Int32)).toNatClampNeg)) (fun r50 M51 => if r45 = r50 then (f_L_law_18 L xs n M51 (x3 + (4 : Int32))) else (some ((0 : Int32), M51))))))))) else if ((xs x3.toNatClampNeg) &&& (31 : Int32)) = (5 : Int32) then (zg (zin (x3 + (1 : Int32)) L) (zg (zin (x3 + (2 : Int32)) L) (zbi (f_X11_room M (xs (x3 + (1 : Int32)).toNatClampNeg) (xs (x3 + (2 : Int32)).toNatClampNeg)) (fun r57 M58 => zg (zin (x3 + (1 : Int32)) L) (zg (zin (x3 + (2 : Int32)) L) (zbi (f_X12_room M58 (xs (x3 + (1 : Int32)).toNatClampNeg) (xs (x3 + (2 : Int32)).toNatClampNeg)) (fun r62 M63 => if r57 = r62 then (f_L_law_18 L xs n M63 (x3 + (4 : Int32))) else (some ((0 : Int32), M63))))))))) else if ((xs x3.toNatClampNeg) &&& (31 : Int32)) = (6 : Int32) then (zg (zin (x3 + (1 : Int32)) L) (zbi (f_X11_now M (xs (x3 + (1 : Int32)).toNatClampNeg)) (fun r68 M69 => zg (zin (x3 + (1 : Int32)) L) (zbi (f_X12_now M69 (xs (x3 + (1 : Int32)).toNatClampNeg)) (fun r72 M73 => if r68 = r72 then (f_L_law_18 L xs n M73 (x3 + (4 : Int32))) else (some ((0 : Int32), M73))))))) else if ((xs x3.toNatClampNeg) &&& (31 : Int32)) = (7 : Int32) then (zg (zin (x3 + (1 : Int32)) L) (zg (zin (x3 + (2 : Int32)) L) (zbi (f_X11_comes M (xs (x3 + (1 : Int32)).toNatClampNeg) (xs (x3 + (2 : Int32)).toNatClampNeg)) (fun r79 M80 => zg (zin (x3 + (1 : Int32)) L) (zg (zin (x3 + (2 : Int32)) L) (zbi (f_X12_comes M80 (xs (x3 + (1 : Int32)).toNatClampNeg) (xs (x3 + (2 : Int32)).toNatClampNeg)) (fun r84 M85 => if r79 = r84 then (f_L_law_18 L xs n M85 (x3 + (4 : Int32))) else (some ((0 : Int32), M85))))))))) else if ((xs x3.toNatClampNeg) &&& (31 : Int32)) = (8 : Int32) then (zbi (f_X11_steps M) (fun r89 M90 => zbi (f_X12_steps M90) (fun r92 M93 => if r89 = r92 then (f_L_law_18 L xs n M93 (x3 + (4 : Int32))) else (some ((0 : Int32), M93))))) else if ((xs x3.toNatClampNeg) &&& (31 : Int32)) = (9 : Int32) then (zg (zin (x3 + (1 : Int32)) L) (zbi (f_X11_leaves M (xs (x3 + (1 : Int32)).toNatClampNeg)) (fun r98 M99 => zg (zin (x3 + (1 : Int32)) L) (zbi (f_X12_leaves M99 (xs (x3 + (1 : Int32)).toNatClampNeg)) (fun r102 M103 => if r98 = r102 then (f_L_law_18 L xs n M103 (x3 + (4 : Int32))) else (some ((0 : Int32), M103))))))) else if ((xs x3.toNatClampNeg) &&& (31 : Int32)) = (10 : Int32) then (zg (zin (x3 + (1 : Int32)) L) (zbi (f_X11_lets M (xs (x3 + (1 : Int32)).toNatClampNeg)) (fun r108 M109 => zg (zin (x3 + (1 : Int32)) L) (zbi (f_X12_lets M109 (xs (x3 + (1 : Int32)).toNatClampNeg)) (fun r112 M113 => if r108 = r112 then (f_L_law_18 L xs n M113 (x3 + (4 : Int32))) else (some ((0 : Int32), M113))))))) else if ((xs x3.toNatClampNeg) &&& (31 : Int32)) = (11 : Int32) then (zbi (f_X11_undo M) (fun r117 M118 => zbi (f_X12_undo M118) (fun r120 M121 => if r117 = r120 then (f_L_law_18 L xs n M121 (x3 + (4 : Int32))) else (some ((0 : Int32), M121))))) else if ((xs x3.toNatClampNeg) &&& (31 : Int32)) = (12 : Int32) then (zg (zin (x3 + (1 : Int32)) L) (zbi (f_X11_spare M (xs (x3 + (1 : Int32)).toNatClampNeg)) (fun r126 M127 => zg (zin (x3 + (1 : Int32)) L) (zbi (f_X12_spare M127 (xs (x3 + (1 : Int32)).toNatClampNeg)) (fun r130 M131 => if r126 = r130 then (f_L_law_18 L xs n M131 (x3 + (4 : Int32))) else (some ((0 : Int32), M131))))))) else if ((xs x3.toNatClampNeg) &&& (31 : Int32)) = (13 : Int32) then (zg (zin (x3 + (1 : Int32)) L) (zbi (f_X11_ahead M (xs (x3 + (1 : Int32)).toNatClampNeg)) (fun r136 M137 => zg (zin (x3 + (1 : Int32)) L) (zbi (f_X12_ahead M137 (xs (x3 + (1 : Int32)).toNatClampNeg)) (fun r140 M141 => if r136 = r140 then (f_L_law_18 L xs n M141 (x3 + (4 : Int32))) else (some ((0 : Int32), M141))))))) else if ((xs x3.toNatClampNeg) &&& (31 : Int32)) = (14 : Int32) then (zg (zin (x3 + (1 : Int32)) L) (zg (zin (x3 + (2 : Int32)) L) (zbi (f_X11_odds M (xs (x3 + (1 : Int32)).toNatClampNeg) (xs (x3 + (2 : Int32)).toNatClampNeg)) (fun r147 M148 => zg (zin (x3 + (1 : Int32)) L) (zg (zin (x3 + (2 : Int32)) L) (zbi (f_X12_odds M148 (xs (x3 + (1 : Int32)).toNatClampNeg) (xs (x3 + (2 : Int32)).toNatClampNeg)) (fun r152 M153 => if r147 = r152 then (f_L_law_18 L xs n M153 (x3 + (4 : Int32))) else (some ((0 : Int32), M153))))))))) else if ((xs x3.toNatClampNeg) &&& (31 : Int32)) = (15 : Int32) then (zg (zin (x3 + (1 : Int32)) L) (zg (zin (x3 + (2 : Int32)) L) (zg (zin (x3 + (3 : Int32)) L) (zbi (f_X11_sees M (xs (x3 + (1 : Int32)).toNatClampNeg) (xs (x3 + (2 : Int32)).toNatClampNeg) (xs (x3 + (3 : Int32)).toNatClampNeg)) (fun r160 M161 => zg (zin (x3 + (1 : Int32)) L) (zg (zin (x3 + (2 : Int32)) L) (zg (zin (x3 + (3 : Int32)) L) (zbi (f_X12_sees M161 (xs (x3 + (1 : Int32)).toNatClampNeg) (xs (x3 + (2 : Int32)).toNatClampNeg) (xs (x3 + (3 : Int32)).toNatClampNeg)) (fun r166 M167 => if r160 = r166 then (f_L_law_18 L xs n M167 (x3 + (4 : Int32))) else (some ((0 : Int32), M167))))))))))) else if ((xs x3.toNatClampNeg) &&& (31 : Int32)) = (16 : Int32) then (zbi (f_X11_forget M) (fun r171 M172 => zbi (f_X12_forget M172) (fun r174 M175 => if r171 = r174 then (f_L_law_18 L xs n M175 (x3 + (4 : Int32))) else (some ((0 : Int32), M175))))) else if ((xs x3.toNatClampNeg) &&& (31 : Int32)) = (17 : Int32) then (zbi (f_X11_which M) (fun r179 M180 => zbi (f_X12_which M180) (fun r182 M183 => if r179 = r182 then (f_L_law_18 L xs n M183 (x3 + (4 : Int32))) else (some ((0 : Int32), M183))))) else if ((xs x3.toNatClampNeg) &&& (31 : Int32)) = (18 : Int32) then (zg (zin (x3 + (1 : Int32)) L) (zbi (f_X11_look M (xs (x3 + (1 : Int32)).toNatClampNeg)) (fun r188 M189 => zg (zin (x3 + (1 : Int32)) L) (zbi (f_X12_look M189 (xs (x3 + (1 : Int32)).toNatClampNeg)) (fun r192 M193 => if r188 = r192 then (f_L_law_18 L xs n M193 (x3 + (4 : Int32))) else (some ((0 : Int32), M193))))))) else if ((xs x3.toNatClampNeg) &&& (31 : Int32)) = (19 : Int32) then (zg (zin (x3 + (1 : Int32)) L) (zg (zin (x3 + (2 : Int32)) L) (zbi (f_X11_rate M (xs (x3 + (1 : Int32)).toNatClampNeg) (xs (x3 + (2 : Int32)).toNatClampNeg)) (fun r199 M200 => zg (zin (x3 + (1 : Int32)) L) (zg (zin (x3 + (2 : Int32)) L) (zbi (f_X12_rate M200 (xs (x3 + (1 : Int32)).toNatClampNeg) (xs (x3 + (2 : Int32)).toNatClampNeg)) (fun r204 M205 => if r199 = r204 then (f_L_law_18 L xs n M205 (x3 + (4 : Int32))) else (some ((0 : Int32), M205))))))))) else if ((xs x3.toNatClampNeg) &&& (31 : Int32)) = (20 : Int32) then (zg (zin (x3 + (1 : Int32)) L) (zbi (f_X11_keep M (xs (x3 + (1 : Int32)).toNatClampNeg)) (fun r210 M211 => zg (zin (x3 + (1 : Int32)) L) (zbi (f_X12_keep M211 (xs (x3 + (1 : Int32)).toNatClampNeg)) (fun r214 M215 => if r210 = r214 then (f_L_law_18 L xs n M215 (x3 + (4 : Int32))) else (some ((0 : Int32), M215))))))) else if ((xs x3.toNatClampNeg) &&& (31 : Int32)) = (21 : Int32) then (zg (zin (x3 + (1 : Int32)) L) (zbi (f_X11_back M (xs (x3 + (1 : Int32)).toNatClampNeg)) (fun r220 M221 => zg (zin (x3 + (1 : Int32)) L) (zbi (f_X12_back M221 (xs (x3 + (1 : Int32)).toNatClampNeg)) (fun r224 M225 => if r220 = r224 then (f_L_law_18 L xs n M225 (x3 + (4 : Int32))) else (some ((0 : Int32), M225))))))) else if ((xs x3.toNatClampNeg) &&& (31 : Int32)) = (22 : Int32) then (zg (zin (x3 + (1 : Int32)) L) (zbi (f_X11_count M (xs (x3 + (1 : Int32)).toNatClampNeg)) (fun r230 M231 => zg (zin (x3 + (1 : Int32)) L) (zbi (f_X12_count M231 (xs (x3 + (1 : Int32)).toNatClampNeg)) (fun r234 M235 => if r230 = r234 then (f_L_law_18 L xs n M235 (x3 + (4 : Int32))) else (some ((0 : Int32), M235))))))) else if ((xs x3.toNatClampNeg) &&& (31 : Int32)) = (23 : Int32) then (zbi (f_X11_trace M) (fun r239 M240 => zbi (f_X12_trace M240) (fun r242 M243 => if (lg_cmp r239 r242) = 0 then (f_L_law_18 L xs n M243 (x3 + (4 : Int32))) else (some ((0 : Int32), M243))))) else (f_L_law_18 L xs n M (x3 + (4 : Int32)))))) = some ((1 : Int32), M') := h
    refine zw_iload_n C 3 rfl dL_law_18 rfl ?_
    refine zw_aload_n C 0 rfl dL_law_19 rfl ?_
    refine zw_slen C hsc dL_law_20 ?_
    refine zw_iconst (v := (4 : Int32)) C dL_law_21 ct_i_4 ?_
    refine zw_isub C dL_law_22 ?_
    refine zw_icmp_gt (tgt := 713) C dL_law_23 (by decide) (fun hb1 => ?_) (fun hb1 => ?_)
    · have h := zt_ hb1 h
      refine zw_iconst (v := (1 : Int32)) C dL_law_713 ct_i_1 ?_
      exact zw_lawret C hlw dL_law_714
    · have h := zf_ hb1 h
      refine zw_aload_n C 0 rfl dL_law_26 rfl ?_
      refine zw_iload_n C 3 rfl dL_law_27 rfl ?_
      obtain ⟨hi2, h⟩ := zg_e h
      refine zw_sld C hsc (zin_e hi2) dL_law_28 ?_
      refine zw_bipush (v := (31 : Int32)) C dL_law_29 ct_b_31 ?_
      refine zw_iand C dL_law_31 ?_
      by_cases hb3 : ((xs x3.toNatClampNeg) &&& (31 : Int32)) = (0 : Int32)
      · have h := zt_ hb3 h
        refine zw_tabIn (v := (0 : Int32)) (tgt := 144) C hb3 dL_law_32 (by decide) (by decide) rfl (by decide) ?_
        refine zw_aload_n C 1 rfl dL_law_144 rfl ?_
        refine zw_aload_n C 0 rfl dL_law_145 rfl ?_
        refine zw_iload_n C 3 rfl dL_law_146 rfl ?_
        refine zw_iconst (v := (1 : Int32)) C dL_law_147 ct_i_1 ?_
        refine zw_iadd C dL_law_148 ?_
        obtain ⟨hi4, h⟩ := zg_e h
        refine zw_sld C hsc (zin_e hi4) dL_law_149 ?_
        obtain ⟨r6, M7, hq5, h⟩ := zbi_e h
        refine zw_callVi (As := [.int (xs (x3 + (1 : Int32)).toNatClampNeg)]) (st := []) C (m_X11_type C.2.2.2.2.2.2.2.1 hq5) kv_X11_type gw_2_35 (by decide) (by decide) (zc_0 E) rfl rfl rfl rfl (Nat.le_of_ble_eq_true rfl) dL_law_150 ?_
        refine zw_aload_n C 2 rfl dL_law_153 rfl ?_
        refine zw_aload_n C 0 rfl dL_law_154 rfl ?_
        refine zw_iload_n C 3 rfl dL_law_155 rfl ?_
        refine zw_iconst (v := (1 : Int32)) C dL_law_156 ct_i_1 ?_
        refine zw_iadd C dL_law_157 ?_
        obtain ⟨hi8, h⟩ := zg_e h
        refine zw_sld C hsc (zin_e hi8) dL_law_158 ?_
        obtain ⟨r10, M11, hq9, h⟩ := zbi_e h
        refine zw_callVi (As := [.int (xs (x3 + (1 : Int32)).toNatClampNeg)]) (st := [.int r6]) C (m_X12_type C.2.2.2.2.2.2.2.1 hq9) kv_X12_type gw_4_37 (by decide) (by decide) (zc_25 E) rfl rfl rfl rfl (Nat.le_of_ble_eq_true rfl) dL_law_159 ?_
        refine zw_icmp_eq (tgt := 707) C dL_law_162 (by decide) (fun hb12 => ?_) (fun hb12 => ?_)
        · have h := zt_ hb12 h
          refine zw_iinc (lv' := [(3, .int (x3 + (4 : Int32))), (0, .ref b), (1, .ref (E.2.1 0)), (2, .ref (E.2.1 25))]) C 3 rfl dL_law_707 (ct_n_4 _) (by decide) rfl ?_
          refine zw_goto (tgt := 18) C dL_law_710 (by decide) ?_
          refine zw_sb [1, 2, 3, 0] rfl ?_
          exact ih _ _ h
        · have h := zf_ hb12 h
          refine zw_iconst (v := (0 : Int32)) C dL_law_165 ct_i_0 ?_
          exact absurd h zw_not01
      have h := zf_ hb3 h
      by_cases hb13 : ((xs x3.toNatClampNeg) &&& (31 : Int32)) = (1 : Int32)
      · have h := zt_ hb13 h
        refine zw_tabIn (v := (1 : Int32)) (tgt := 167) C hb13 dL_law_32 (by decide) (by decide) rfl (by decide) ?_
        refine zw_aload_n C 1 rfl dL_law_167 rfl ?_
        obtain ⟨r15, M16, hq14, h⟩ := zbi_e h
        refine zw_callVi (As := []) (st := []) C (m_X11_clear C.2.2.2.2.2.2.2.1 hq14) kv_X11_clear gw_2_43 (by decide) (by decide) (zc_0 E) rfl rfl rfl rfl (Nat.le_of_ble_eq_true rfl) dL_law_168 ?_
        refine zw_aload_n C 2 rfl dL_law_171 rfl ?_
        obtain ⟨r18, M19, hq17, h⟩ := zbi_e h
        refine zw_callVi (As := []) (st := [.int r15]) C (m_X12_clear C.2.2.2.2.2.2.2.1 hq17) kv_X12_clear gw_4_45 (by decide) (by decide) (zc_25 E) rfl rfl rfl rfl (Nat.le_of_ble_eq_true rfl) dL_law_172 ?_
        refine zw_icmp_eq (tgt := 707) C dL_law_175 (by decide) (fun hb20 => ?_) (fun hb20 => ?_)
        · have h := zt_ hb20 h
          refine zw_iinc (lv' := [(3, .int (x3 + (4 : Int32))), (0, .ref b), (1, .ref (E.2.1 0)), (2, .ref (E.2.1 25))]) C 3 rfl dL_law_707 (ct_n_4 _) (by decide) rfl ?_
          refine zw_goto (tgt := 18) C dL_law_710 (by decide) ?_
          refine zw_sb [1, 2, 3, 0] rfl ?_
          exact ih _ _ h
        · have h := zf_ hb20 h
          refine zw_iconst (v := (0 : Int32)) C dL_law_178 ct_i_0 ?_
          exact absurd h zw_not01
      have h := zf_ hb13 h
      by_cases hb21 : ((xs x3.toNatClampNeg) &&& (31 : Int32)) = (2 : Int32)
      · have h := zt_ hb21 h
        refine zw_tabIn (v := (2 : Int32)) (tgt := 180) C hb21 dL_law_32 (by decide) (by decide) rfl (by decide) ?_
        refine zw_aload_n C 1 rfl dL_law_180 rfl ?_
        obtain ⟨r23, M24, hq22, h⟩ := zbi_e h
        refine zw_callVi (As := []) (st := []) C (m_X11_door C.2.2.2.2.2.2.2.1 hq22) kv_X11_door gw_2_47 (by decide) (by decide) (zc_0 E) rfl rfl rfl rfl (Nat.le_of_ble_eq_true rfl) dL_law_181 ?_
        refine zw_aload_n C 2 rfl dL_law_184 rfl ?_
        obtain ⟨r26, M27, hq25, h⟩ := zbi_e h
        refine zw_callVi (As := []) (st := [.int r23]) C (m_X12_door C.2.2.2.2.2.2.2.1 hq25) kv_X12_door gw_4_49 (by decide) (by decide) (zc_25 E) rfl rfl rfl rfl (Nat.le_of_ble_eq_true rfl) dL_law_185 ?_
        refine zw_icmp_eq (tgt := 707) C dL_law_188 (by decide) (fun hb28 => ?_) (fun hb28 => ?_)
        · have h := zt_ hb28 h
          refine zw_iinc (lv' := [(3, .int (x3 + (4 : Int32))), (0, .ref b), (1, .ref (E.2.1 0)), (2, .ref (E.2.1 25))]) C 3 rfl dL_law_707 (ct_n_4 _) (by decide) rfl ?_
          refine zw_goto (tgt := 18) C dL_law_710 (by decide) ?_
          refine zw_sb [1, 2, 3, 0] rfl ?_
          exact ih _ _ h
        · have h := zf_ hb28 h
          refine zw_iconst (v := (0 : Int32)) C dL_law_191 ct_i_0 ?_
          exact absurd h zw_not01
      have h := zf_ hb21 h
      by_cases hb29 : ((xs x3.toNatClampNeg) &&& (31 : Int32)) = (3 : Int32)
      · have h := zt_ hb29 h
        refine zw_tabIn (v := (3 : Int32)) (tgt := 193) C hb29 dL_law_32 (by decide) (by decide) rfl (by decide) ?_
        refine zw_aload_n C 1 rfl dL_law_193 rfl ?_
        refine zw_aload_n C 0 rfl dL_law_194 rfl ?_
        refine zw_iload_n C 3 rfl dL_law_195 rfl ?_
        refine zw_iconst (v := (1 : Int32)) C dL_law_196 ct_i_1 ?_
        refine zw_iadd C dL_law_197 ?_
        obtain ⟨hi30, h⟩ := zg_e h
        refine zw_sld C hsc (zin_e hi30) dL_law_198 ?_
        refine zw_aload_n C 0 rfl dL_law_199 rfl ?_
        refine zw_iload_n C 3 rfl dL_law_200 rfl ?_
        refine zw_iconst (v := (2 : Int32)) C dL_law_201 ct_i_2 ?_
        refine zw_iadd C dL_law_202 ?_
        obtain ⟨hi31, h⟩ := zg_e h
        refine zw_sld C hsc (zin_e hi31) dL_law_203 ?_
        obtain ⟨r33, M34, hq32, h⟩ := zbi_e h
        refine zw_callVi (As := [.int (xs (x3 + (1 : Int32)).toNatClampNeg), .int (xs (x3 + (2 : Int32)).toNatClampNeg)]) (st := []) C (m_X11_sort C.2.2.2.2.2.2.2.1 hq32) kv_X11_sort gw_2_103 (by decide) (by decide) (zc_0 E) rfl rfl rfl rfl (Nat.le_of_ble_eq_true rfl) dL_law_204 ?_
        refine zw_aload_n C 2 rfl dL_law_207 rfl ?_
        refine zw_aload_n C 0 rfl dL_law_208 rfl ?_
        refine zw_iload_n C 3 rfl dL_law_209 rfl ?_
        refine zw_iconst (v := (1 : Int32)) C dL_law_210 ct_i_1 ?_
        refine zw_iadd C dL_law_211 ?_
        obtain ⟨hi35, h⟩ := zg_e h
        refine zw_sld C hsc (zin_e hi35) dL_law_212 ?_
        refine zw_aload_n C 0 rfl dL_law_213 rfl ?_
        refine zw_iload_n C 3 rfl dL_law_214 rfl ?_
        refine zw_iconst (v := (2 : Int32)) C dL_law_215 ct_i_2 ?_
        refine zw_iadd C dL_law_216 ?_
        obtain ⟨hi36, h⟩ := zg_e h
        refine zw_sld C hsc (zin_e hi36) dL_law_217 ?_
        obtain ⟨r38, M39, hq37, h⟩ := zbi_e h
        refine zw_callVi (As := [.int (xs (x3 + (1 : Int32)).toNatClampNeg), .int (xs (x3 + (2 : Int32)).toNatClampNeg)]) (st := [.int r33]) C (m_X12_sort C.2.2.2.2.2.2.2.1 hq37) kv_X12_sort gw_4_98 (by decide) (by decide) (zc_25 E) rfl rfl rfl rfl (Nat.le_of_ble_eq_true rfl) dL_law_218 ?_
        refine zw_icmp_eq (tgt := 707) C dL_law_221 (by decide) (fun hb40 => ?_) (fun hb40 => ?_)
        · have h := zt_ hb40 h
          refine zw_iinc (lv' := [(3, .int (x3 + (4 : Int32))), (0, .ref b), (1, .ref (E.2.1 0)), (2, .ref (E.2.1 25))]) C 3 rfl dL_law_707 (ct_n_4 _) (by decide) rfl ?_
          refine zw_goto (tgt := 18) C dL_law_710 (by decide) ?_
          refine zw_sb [1, 2, 3, 0] rfl ?_
          exact ih _ _ h
        · have h := zf_ hb40 h
          refine zw_iconst (v := (0 : Int32)) C dL_law_224 ct_i_0 ?_
          exact absurd h zw_not01
      have h := zf_ hb29 h
      by_cases hb41 : ((xs x3.toNatClampNeg) &&& (31 : Int32)) = (4 : Int32)
      · have h := zt_ hb41 h
        refine zw_tabIn (v := (4 : Int32)) (tgt := 226) C hb41 dL_law_32 (by decide) (by decide) rfl (by decide) ?_
        refine zw_aload_n C 1 rfl dL_law_226 rfl ?_
        refine zw_aload_n C 0 rfl dL_law_227 rfl ?_
        refine zw_iload_n C 3 rfl dL_law_228 rfl ?_
        refine zw_iconst (v := (1 : Int32)) C dL_law_229 ct_i_1 ?_
        refine zw_iadd C dL_law_230 ?_
        obtain ⟨hi42, h⟩ := zg_e h
        refine zw_sld C hsc (zin_e hi42) dL_law_231 ?_
        refine zw_aload_n C 0 rfl dL_law_232 rfl ?_
        refine zw_iload_n C 3 rfl dL_law_233 rfl ?_
        refine zw_iconst (v := (2 : Int32)) C dL_law_234 ct_i_2 ?_
        refine zw_iadd C dL_law_235 ?_
        obtain ⟨hi43, h⟩ := zg_e h
        refine zw_sld C hsc (zin_e hi43) dL_law_236 ?_
        obtain ⟨r45, M46, hq44, h⟩ := zbi_e h
        refine zw_callVi (As := [.int (xs (x3 + (1 : Int32)).toNatClampNeg), .int (xs (x3 + (2 : Int32)).toNatClampNeg)]) (st := []) C (m_X11_goer C.2.2.2.2.2.2.2.1 hq44) kv_X11_goer gw_2_123 (by decide) (by decide) (zc_0 E) rfl rfl rfl rfl (Nat.le_of_ble_eq_true rfl) dL_law_237 ?_
        refine zw_aload_n C 2 rfl dL_law_240 rfl ?_
        refine zw_aload_n C 0 rfl dL_law_241 rfl ?_
        refine zw_iload_n C 3 rfl dL_law_242 rfl ?_
        refine zw_iconst (v := (1 : Int32)) C dL_law_243 ct_i_1 ?_
        refine zw_iadd C dL_law_244 ?_
        obtain ⟨hi47, h⟩ := zg_e h
        refine zw_sld C hsc (zin_e hi47) dL_law_245 ?_
        refine zw_aload_n C 0 rfl dL_law_246 rfl ?_
        refine zw_iload_n C 3 rfl dL_law_247 rfl ?_
        refine zw_iconst (v := (2 : Int32)) C dL_law_248 ct_i_2 ?_
        refine zw_iadd C dL_law_249 ?_
        obtain ⟨hi48, h⟩ := zg_e h
        refine zw_sld C hsc (zin_e hi48) dL_law_250 ?_
        obtain ⟨r50, M51, hq49, h⟩ := zbi_e h
        refine zw_callVi (As := [.int (xs (x3 + (1 : Int32)).toNatClampNeg), .int (xs (x3 + (2 : Int32)).toNatClampNeg)]) (st := [.int r45]) C (m_X12_goer C.2.2.2.2.2.2.2.1 hq49) kv_X12_goer gw_4_102 (by decide) (by decide) (zc_25 E) rfl rfl rfl rfl (Nat.le_of_ble_eq_true rfl) dL_law_251 ?_
        refine zw_icmp_eq (tgt := 707) C dL_law_254 (by decide) (fun hb52 => ?_) (fun hb52 => ?_)
        · have h := zt_ hb52 h
          refine zw_iinc (lv' := [(3, .int (x3 + (4 : Int32))), (0, .ref b), (1, .ref (E.2.1 0)), (2, .ref (E.2.1 25))]) C 3 rfl dL_law_707 (ct_n_4 _) (by decide) rfl ?_
          refine zw_goto (tgt := 18) C dL_law_710 (by decide) ?_
          refine zw_sb [1, 2, 3, 0] rfl ?_
          exact ih _ _ h
        · have h := zf_ hb52 h
          refine zw_iconst (v := (0 : Int32)) C dL_law_257 ct_i_0 ?_
          exact absurd h zw_not01
      have h := zf_ hb41 h
      by_cases hb53 : ((xs x3.toNatClampNeg) &&& (31 : Int32)) = (5 : Int32)
      · have h := zt_ hb53 h
        refine zw_tabIn (v := (5 : Int32)) (tgt := 259) C hb53 dL_law_32 (by decide) (by decide) rfl (by decide) ?_
        refine zw_aload_n C 1 rfl dL_law_259 rfl ?_
        refine zw_aload_n C 0 rfl dL_law_260 rfl ?_
        refine zw_iload_n C 3 rfl dL_law_261 rfl ?_
        refine zw_iconst (v := (1 : Int32)) C dL_law_262 ct_i_1 ?_
        refine zw_iadd C dL_law_263 ?_
        obtain ⟨hi54, h⟩ := zg_e h
        refine zw_sld C hsc (zin_e hi54) dL_law_264 ?_
        refine zw_aload_n C 0 rfl dL_law_265 rfl ?_
        refine zw_iload_n C 3 rfl dL_law_266 rfl ?_
        refine zw_iconst (v := (2 : Int32)) C dL_law_267 ct_i_2 ?_
        refine zw_iadd C dL_law_268 ?_
        obtain ⟨hi55, h⟩ := zg_e h
        refine zw_sld C hsc (zin_e hi55) dL_law_269 ?_
        obtain ⟨r57, M58, hq56, h⟩ := zbi_e h
        refine zw_callVi (As := [.int (xs (x3 + (1 : Int32)).toNatClampNeg), .int (xs (x3 + (2 : Int32)).toNatClampNeg)]) (st := []) C (m_X11_room C.2.2.2.2.2.2.2.1 hq56) kv_X11_room gw_2_204 (by decide) (by decide) (zc_0 E) rfl rfl rfl rfl (Nat.le_of_ble_eq_true rfl) dL_law_270 ?_
        refine zw_aload_n C 2 rfl dL_law_273 rfl ?_
        refine zw_aload_n C 0 rfl dL_law_274 rfl ?_
        refine zw_iload_n C 3 rfl dL_law_275 rfl ?_
        refine zw_iconst (v := (1 : Int32)) C dL_law_276 ct_i_1 ?_
        refine zw_iadd C dL_law_277 ?_
        obtain ⟨hi59, h⟩ := zg_e h
        refine zw_sld C hsc (zin_e hi59) dL_law_278 ?_
        refine zw_aload_n C 0 rfl dL_law_279 rfl ?_
        refine zw_iload_n C 3 rfl dL_law_280 rfl ?_
        refine zw_iconst (v := (2 : Int32)) C dL_law_281 ct_i_2 ?_
        refine zw_iadd C dL_law_282 ?_
        obtain ⟨hi60, h⟩ := zg_e h
        refine zw_sld C hsc (zin_e hi60) dL_law_283 ?_
        obtain ⟨r62, M63, hq61, h⟩ := zbi_e h
        refine zw_callVi (As := [.int (xs (x3 + (1 : Int32)).toNatClampNeg), .int (xs (x3 + (2 : Int32)).toNatClampNeg)]) (st := [.int r57]) C (m_X12_room C.2.2.2.2.2.2.2.1 hq61) kv_X12_room gw_4_172 (by decide) (by decide) (zc_25 E) rfl rfl rfl rfl (Nat.le_of_ble_eq_true rfl) dL_law_284 ?_
        refine zw_icmp_eq (tgt := 707) C dL_law_287 (by decide) (fun hb64 => ?_) (fun hb64 => ?_)
        · have h := zt_ hb64 h
          refine zw_iinc (lv' := [(3, .int (x3 + (4 : Int32))), (0, .ref b), (1, .ref (E.2.1 0)), (2, .ref (E.2.1 25))]) C 3 rfl dL_law_707 (ct_n_4 _) (by decide) rfl ?_
          refine zw_goto (tgt := 18) C dL_law_710 (by decide) ?_
          refine zw_sb [1, 2, 3, 0] rfl ?_
          exact ih _ _ h
        · have h := zf_ hb64 h
          refine zw_iconst (v := (0 : Int32)) C dL_law_290 ct_i_0 ?_
          exact absurd h zw_not01
      have h := zf_ hb53 h
      by_cases hb65 : ((xs x3.toNatClampNeg) &&& (31 : Int32)) = (6 : Int32)
      · have h := zt_ hb65 h
        refine zw_tabIn (v := (6 : Int32)) (tgt := 292) C hb65 dL_law_32 (by decide) (by decide) rfl (by decide) ?_
        refine zw_aload_n C 1 rfl dL_law_292 rfl ?_
        refine zw_aload_n C 0 rfl dL_law_293 rfl ?_
        refine zw_iload_n C 3 rfl dL_law_294 rfl ?_
        refine zw_iconst (v := (1 : Int32)) C dL_law_295 ct_i_1 ?_
        refine zw_iadd C dL_law_296 ?_
        obtain ⟨hi66, h⟩ := zg_e h
        refine zw_sld C hsc (zin_e hi66) dL_law_297 ?_
        obtain ⟨r68, M69, hq67, h⟩ := zbi_e h
        refine zw_callVi (As := [.int (xs (x3 + (1 : Int32)).toNatClampNeg)]) (st := []) C (m_X11_now C.2.2.2.2.2.2.2.1 hq67) kv_X11_now gw_2_213 (by decide) (by decide) (zc_0 E) rfl rfl rfl rfl (Nat.le_of_ble_eq_true rfl) dL_law_298 ?_
        refine zw_aload_n C 2 rfl dL_law_301 rfl ?_
        refine zw_aload_n C 0 rfl dL_law_302 rfl ?_
        refine zw_iload_n C 3 rfl dL_law_303 rfl ?_
        refine zw_iconst (v := (1 : Int32)) C dL_law_304 ct_i_1 ?_
        refine zw_iadd C dL_law_305 ?_
        obtain ⟨hi70, h⟩ := zg_e h
        refine zw_sld C hsc (zin_e hi70) dL_law_306 ?_
        obtain ⟨r72, M73, hq71, h⟩ := zbi_e h
        refine zw_callVi (As := [.int (xs (x3 + (1 : Int32)).toNatClampNeg)]) (st := [.int r68]) C (m_X12_now C.2.2.2.2.2.2.2.1 hq71) kv_X12_now gw_4_179 (by decide) (by decide) (zc_25 E) rfl rfl rfl rfl (Nat.le_of_ble_eq_true rfl) dL_law_307 ?_
        refine zw_icmp_eq (tgt := 707) C dL_law_310 (by decide) (fun hb74 => ?_) (fun hb74 => ?_)
        · have h := zt_ hb74 h
          refine zw_iinc (lv' := [(3, .int (x3 + (4 : Int32))), (0, .ref b), (1, .ref (E.2.1 0)), (2, .ref (E.2.1 25))]) C 3 rfl dL_law_707 (ct_n_4 _) (by decide) rfl ?_
          refine zw_goto (tgt := 18) C dL_law_710 (by decide) ?_
          refine zw_sb [1, 2, 3, 0] rfl ?_
          exact ih _ _ h
        · have h := zf_ hb74 h
          refine zw_iconst (v := (0 : Int32)) C dL_law_313 ct_i_0 ?_
          exact absurd h zw_not01
      have h := zf_ hb65 h
      by_cases hb75 : ((xs x3.toNatClampNeg) &&& (31 : Int32)) = (7 : Int32)
      · have h := zt_ hb75 h
        refine zw_tabIn (v := (7 : Int32)) (tgt := 315) C hb75 dL_law_32 (by decide) (by decide) rfl (by decide) ?_
        refine zw_aload_n C 1 rfl dL_law_315 rfl ?_
        refine zw_aload_n C 0 rfl dL_law_316 rfl ?_
        refine zw_iload_n C 3 rfl dL_law_317 rfl ?_
        refine zw_iconst (v := (1 : Int32)) C dL_law_318 ct_i_1 ?_
        refine zw_iadd C dL_law_319 ?_
        obtain ⟨hi76, h⟩ := zg_e h
        refine zw_sld C hsc (zin_e hi76) dL_law_320 ?_
        refine zw_aload_n C 0 rfl dL_law_321 rfl ?_
        refine zw_iload_n C 3 rfl dL_law_322 rfl ?_
        refine zw_iconst (v := (2 : Int32)) C dL_law_323 ct_i_2 ?_
        refine zw_iadd C dL_law_324 ?_
        obtain ⟨hi77, h⟩ := zg_e h
        refine zw_sld C hsc (zin_e hi77) dL_law_325 ?_
        obtain ⟨r79, M80, hq78, h⟩ := zbi_e h
        refine zw_callVi (As := [.int (xs (x3 + (1 : Int32)).toNatClampNeg), .int (xs (x3 + (2 : Int32)).toNatClampNeg)]) (st := []) C (m_X11_comes C.2.2.2.2.2.2.2.1 hq78) kv_X11_comes gw_2_236 (by decide) (by decide) (zc_0 E) rfl rfl rfl rfl (Nat.le_of_ble_eq_true rfl) dL_law_326 ?_
        refine zw_aload_n C 2 rfl dL_law_329 rfl ?_
        refine zw_aload_n C 0 rfl dL_law_330 rfl ?_
        refine zw_iload_n C 3 rfl dL_law_331 rfl ?_
        refine zw_iconst (v := (1 : Int32)) C dL_law_332 ct_i_1 ?_
        refine zw_iadd C dL_law_333 ?_
        obtain ⟨hi81, h⟩ := zg_e h
        refine zw_sld C hsc (zin_e hi81) dL_law_334 ?_
        refine zw_aload_n C 0 rfl dL_law_335 rfl ?_
        refine zw_iload_n C 3 rfl dL_law_336 rfl ?_
        refine zw_iconst (v := (2 : Int32)) C dL_law_337 ct_i_2 ?_
        refine zw_iadd C dL_law_338 ?_
        obtain ⟨hi82, h⟩ := zg_e h
        refine zw_sld C hsc (zin_e hi82) dL_law_339 ?_
        obtain ⟨r84, M85, hq83, h⟩ := zbi_e h
        refine zw_callVi (As := [.int (xs (x3 + (1 : Int32)).toNatClampNeg), .int (xs (x3 + (2 : Int32)).toNatClampNeg)]) (st := [.int r79]) C (m_X12_comes C.2.2.2.2.2.2.2.1 hq83) kv_X12_comes gw_4_191 (by decide) (by decide) (zc_25 E) rfl rfl rfl rfl (Nat.le_of_ble_eq_true rfl) dL_law_340 ?_
        refine zw_icmp_eq (tgt := 707) C dL_law_343 (by decide) (fun hb86 => ?_) (fun hb86 => ?_)
        · have h := zt_ hb86 h
          refine zw_iinc (lv' := [(3, .int (x3 + (4 : Int32))), (0, .ref b), (1, .ref (E.2.1 0)), (2, .ref (E.2.1 25))]) C 3 rfl dL_law_707 (ct_n_4 _) (by decide) rfl ?_
          refine zw_goto (tgt := 18) C dL_law_710 (by decide) ?_
          refine zw_sb [1, 2, 3, 0] rfl ?_
          exact ih _ _ h
        · have h := zf_ hb86 h
          refine zw_iconst (v := (0 : Int32)) C dL_law_346 ct_i_0 ?_
          exact absurd h zw_not01
      have h := zf_ hb75 h
      by_cases hb87 : ((xs x3.toNatClampNeg) &&& (31 : Int32)) = (8 : Int32)
      · have h := zt_ hb87 h
        refine zw_tabIn (v := (8 : Int32)) (tgt := 348) C hb87 dL_law_32 (by decide) (by decide) rfl (by decide) ?_
        refine zw_aload_n C 1 rfl dL_law_348 rfl ?_
        obtain ⟨r89, M90, hq88, h⟩ := zbi_e h
        refine zw_callVi (As := []) (st := []) C (m_X11_steps C.2.2.2.2.2.2.2.1 hq88) kv_X11_steps gw_3_9 (by decide) (by decide) (zc_0 E) rfl rfl rfl rfl (Nat.le_of_ble_eq_true rfl) dL_law_349 ?_
        refine zw_aload_n C 2 rfl dL_law_352 rfl ?_
        obtain ⟨r92, M93, hq91, h⟩ := zbi_e h
        refine zw_callVi (As := []) (st := [.int r89]) C (m_X12_steps C.2.2.2.2.2.2.2.1 hq91) kv_X12_steps gw_4_199 (by decide) (by decide) (zc_25 E) rfl rfl rfl rfl (Nat.le_of_ble_eq_true rfl) dL_law_353 ?_
        refine zw_icmp_eq (tgt := 707) C dL_law_356 (by decide) (fun hb94 => ?_) (fun hb94 => ?_)
        · have h := zt_ hb94 h
          refine zw_iinc (lv' := [(3, .int (x3 + (4 : Int32))), (0, .ref b), (1, .ref (E.2.1 0)), (2, .ref (E.2.1 25))]) C 3 rfl dL_law_707 (ct_n_4 _) (by decide) rfl ?_
          refine zw_goto (tgt := 18) C dL_law_710 (by decide) ?_
          refine zw_sb [1, 2, 3, 0] rfl ?_
          exact ih _ _ h
        · have h := zf_ hb94 h
          refine zw_iconst (v := (0 : Int32)) C dL_law_359 ct_i_0 ?_
          exact absurd h zw_not01
      have h := zf_ hb87 h
      by_cases hb95 : ((xs x3.toNatClampNeg) &&& (31 : Int32)) = (9 : Int32)
      · have h := zt_ hb95 h
        refine zw_tabIn (v := (9 : Int32)) (tgt := 361) C hb95 dL_law_32 (by decide) (by decide) rfl (by decide) ?_
        refine zw_aload_n C 1 rfl dL_law_361 rfl ?_
        refine zw_aload_n C 0 rfl dL_law_362 rfl ?_
        refine zw_iload_n C 3 rfl dL_law_363 rfl ?_
        refine zw_iconst (v := (1 : Int32)) C dL_law_364 ct_i_1 ?_
        refine zw_iadd C dL_law_365 ?_
        obtain ⟨hi96, h⟩ := zg_e h
        refine zw_sld C hsc (zin_e hi96) dL_law_366 ?_
        obtain ⟨r98, M99, hq97, h⟩ := zbi_e h
        refine zw_callVi (As := [.int (xs (x3 + (1 : Int32)).toNatClampNeg)]) (st := []) C (m_X11_leaves C.2.2.2.2.2.2.2.1 hq97) kv_X11_leaves gw_3_14 (by decide) (by decide) (zc_0 E) rfl rfl rfl rfl (Nat.le_of_ble_eq_true rfl) dL_law_367 ?_
        refine zw_aload_n C 2 rfl dL_law_370 rfl ?_
        refine zw_aload_n C 0 rfl dL_law_371 rfl ?_
        refine zw_iload_n C 3 rfl dL_law_372 rfl ?_
        refine zw_iconst (v := (1 : Int32)) C dL_law_373 ct_i_1 ?_
        refine zw_iadd C dL_law_374 ?_
        obtain ⟨hi100, h⟩ := zg_e h
        refine zw_sld C hsc (zin_e hi100) dL_law_375 ?_
        obtain ⟨r102, M103, hq101, h⟩ := zbi_e h
        refine zw_callVi (As := [.int (xs (x3 + (1 : Int32)).toNatClampNeg)]) (st := [.int r98]) C (m_X12_leaves C.2.2.2.2.2.2.2.1 hq101) kv_X12_leaves gw_4_203 (by decide) (by decide) (zc_25 E) rfl rfl rfl rfl (Nat.le_of_ble_eq_true rfl) dL_law_376 ?_
        refine zw_icmp_eq (tgt := 707) C dL_law_379 (by decide) (fun hb104 => ?_) (fun hb104 => ?_)
        · have h := zt_ hb104 h
          refine zw_iinc (lv' := [(3, .int (x3 + (4 : Int32))), (0, .ref b), (1, .ref (E.2.1 0)), (2, .ref (E.2.1 25))]) C 3 rfl dL_law_707 (ct_n_4 _) (by decide) rfl ?_
          refine zw_goto (tgt := 18) C dL_law_710 (by decide) ?_
          refine zw_sb [1, 2, 3, 0] rfl ?_
          exact ih _ _ h
        · have h := zf_ hb104 h
          refine zw_iconst (v := (0 : Int32)) C dL_law_382 ct_i_0 ?_
          exact absurd h zw_not01
      have h := zf_ hb95 h
      by_cases hb105 : ((xs x3.toNatClampNeg) &&& (31 : Int32)) = (10 : Int32)
      · have h := zt_ hb105 h
        refine zw_tabIn (v := (10 : Int32)) (tgt := 384) C hb105 dL_law_32 (by decide) (by decide) rfl (by decide) ?_
        refine zw_aload_n C 1 rfl dL_law_384 rfl ?_
        refine zw_aload_n C 0 rfl dL_law_385 rfl ?_
        refine zw_iload_n C 3 rfl dL_law_386 rfl ?_
        refine zw_iconst (v := (1 : Int32)) C dL_law_387 ct_i_1 ?_
        refine zw_iadd C dL_law_388 ?_
        obtain ⟨hi106, h⟩ := zg_e h
        refine zw_sld C hsc (zin_e hi106) dL_law_389 ?_
        obtain ⟨r108, M109, hq107, h⟩ := zbi_e h
        refine zw_callVi (As := [.int (xs (x3 + (1 : Int32)).toNatClampNeg)]) (st := []) C (m_X11_lets C.2.2.2.2.2.2.2.1 hq107) kv_X11_lets gw_3_26 (by decide) (by decide) (zc_0 E) rfl rfl rfl rfl (Nat.le_of_ble_eq_true rfl) dL_law_390 ?_
        refine zw_aload_n C 2 rfl dL_law_393 rfl ?_
        refine zw_aload_n C 0 rfl dL_law_394 rfl ?_
        refine zw_iload_n C 3 rfl dL_law_395 rfl ?_
        refine zw_iconst (v := (1 : Int32)) C dL_law_396 ct_i_1 ?_
        refine zw_iadd C dL_law_397 ?_
        obtain ⟨hi110, h⟩ := zg_e h
        refine zw_sld C hsc (zin_e hi110) dL_law_398 ?_
        obtain ⟨r112, M113, hq111, h⟩ := zbi_e h
        refine zw_callVi (As := [.int (xs (x3 + (1 : Int32)).toNatClampNeg)]) (st := [.int r108]) C (m_X12_lets C.2.2.2.2.2.2.2.1 hq111) kv_X12_lets gw_4_210 (by decide) (by decide) (zc_25 E) rfl rfl rfl rfl (Nat.le_of_ble_eq_true rfl) dL_law_399 ?_
        refine zw_icmp_eq (tgt := 707) C dL_law_402 (by decide) (fun hb114 => ?_) (fun hb114 => ?_)
        · have h := zt_ hb114 h
          refine zw_iinc (lv' := [(3, .int (x3 + (4 : Int32))), (0, .ref b), (1, .ref (E.2.1 0)), (2, .ref (E.2.1 25))]) C 3 rfl dL_law_707 (ct_n_4 _) (by decide) rfl ?_
          refine zw_goto (tgt := 18) C dL_law_710 (by decide) ?_
          refine zw_sb [1, 2, 3, 0] rfl ?_
          exact ih _ _ h
        · have h := zf_ hb114 h
          refine zw_iconst (v := (0 : Int32)) C dL_law_405 ct_i_0 ?_
          exact absurd h zw_not01
      have h := zf_ hb105 h
      by_cases hb115 : ((xs x3.toNatClampNeg) &&& (31 : Int32)) = (11 : Int32)
      · have h := zt_ hb115 h
        refine zw_tabIn (v := (11 : Int32)) (tgt := 407) C hb115 dL_law_32 (by decide) (by decide) rfl (by decide) ?_
        refine zw_aload_n C 1 rfl dL_law_407 rfl ?_
        obtain ⟨r117, M118, hq116, h⟩ := zbi_e h
        refine zw_callVi (As := []) (st := []) C (m_X11_undo C.2.2.2.2.2.2.2.1 hq116) kv_X11_undo gw_3_34 (by decide) (by decide) (zc_0 E) rfl rfl rfl rfl (Nat.le_of_ble_eq_true rfl) dL_law_408 ?_
        refine zw_aload_n C 2 rfl dL_law_411 rfl ?_
        obtain ⟨r120, M121, hq119, h⟩ := zbi_e h
        refine zw_callVi (As := []) (st := [.int r117]) C (m_X12_undo C.2.2.2.2.2.2.2.1 hq119) kv_X12_undo gw_4_217 (by decide) (by decide) (zc_25 E) rfl rfl rfl rfl (Nat.le_of_ble_eq_true rfl) dL_law_412 ?_
        refine zw_icmp_eq (tgt := 707) C dL_law_415 (by decide) (fun hb122 => ?_) (fun hb122 => ?_)
        · have h := zt_ hb122 h
          refine zw_iinc (lv' := [(3, .int (x3 + (4 : Int32))), (0, .ref b), (1, .ref (E.2.1 0)), (2, .ref (E.2.1 25))]) C 3 rfl dL_law_707 (ct_n_4 _) (by decide) rfl ?_
          refine zw_goto (tgt := 18) C dL_law_710 (by decide) ?_
          refine zw_sb [1, 2, 3, 0] rfl ?_
          exact ih _ _ h
        · have h := zf_ hb122 h
          refine zw_iconst (v := (0 : Int32)) C dL_law_418 ct_i_0 ?_
          exact absurd h zw_not01
      have h := zf_ hb115 h
      by_cases hb123 : ((xs x3.toNatClampNeg) &&& (31 : Int32)) = (12 : Int32)
      · have h := zt_ hb123 h
        refine zw_tabIn (v := (12 : Int32)) (tgt := 420) C hb123 dL_law_32 (by decide) (by decide) rfl (by decide) ?_
        refine zw_aload_n C 1 rfl dL_law_420 rfl ?_
        refine zw_aload_n C 0 rfl dL_law_421 rfl ?_
        refine zw_iload_n C 3 rfl dL_law_422 rfl ?_
        refine zw_iconst (v := (1 : Int32)) C dL_law_423 ct_i_1 ?_
        refine zw_iadd C dL_law_424 ?_
        obtain ⟨hi124, h⟩ := zg_e h
        refine zw_sld C hsc (zin_e hi124) dL_law_425 ?_
        obtain ⟨r126, M127, hq125, h⟩ := zbi_e h
        refine zw_callVi (As := [.int (xs (x3 + (1 : Int32)).toNatClampNeg)]) (st := []) C (m_X11_spare C.2.2.2.2.2.2.2.1 hq125) kv_X11_spare gw_3_42 (by decide) (by decide) (zc_0 E) rfl rfl rfl rfl (Nat.le_of_ble_eq_true rfl) dL_law_426 ?_
        refine zw_aload_n C 2 rfl dL_law_429 rfl ?_
        refine zw_aload_n C 0 rfl dL_law_430 rfl ?_
        refine zw_iload_n C 3 rfl dL_law_431 rfl ?_
        refine zw_iconst (v := (1 : Int32)) C dL_law_432 ct_i_1 ?_
        refine zw_iadd C dL_law_433 ?_
        obtain ⟨hi128, h⟩ := zg_e h
        refine zw_sld C hsc (zin_e hi128) dL_law_434 ?_
        obtain ⟨r130, M131, hq129, h⟩ := zbi_e h
        refine zw_callVi (As := [.int (xs (x3 + (1 : Int32)).toNatClampNeg)]) (st := [.int r126]) C (m_X12_spare C.2.2.2.2.2.2.2.1 hq129) kv_X12_spare gw_4_221 (by decide) (by decide) (zc_25 E) rfl rfl rfl rfl (Nat.le_of_ble_eq_true rfl) dL_law_435 ?_
        refine zw_icmp_eq (tgt := 707) C dL_law_438 (by decide) (fun hb132 => ?_) (fun hb132 => ?_)
        · have h := zt_ hb132 h
          refine zw_iinc (lv' := [(3, .int (x3 + (4 : Int32))), (0, .ref b), (1, .ref (E.2.1 0)), (2, .ref (E.2.1 25))]) C 3 rfl dL_law_707 (ct_n_4 _) (by decide) rfl ?_
          refine zw_goto (tgt := 18) C dL_law_710 (by decide) ?_
          refine zw_sb [1, 2, 3, 0] rfl ?_
          exact ih _ _ h
        · have h := zf_ hb132 h
          refine zw_iconst (v := (0 : Int32)) C dL_law_441 ct_i_0 ?_
          exact absurd h zw_not01
      have h := zf_ hb123 h
      by_cases hb133 : ((xs x3.toNatClampNeg) &&& (31 : Int32)) = (13 : Int32)
      · have h := zt_ hb133 h
        refine zw_tabIn (v := (13 : Int32)) (tgt := 443) C hb133 dL_law_32 (by decide) (by decide) rfl (by decide) ?_
        refine zw_aload_n C 1 rfl dL_law_443 rfl ?_
        refine zw_aload_n C 0 rfl dL_law_444 rfl ?_
        refine zw_iload_n C 3 rfl dL_law_445 rfl ?_
        refine zw_iconst (v := (1 : Int32)) C dL_law_446 ct_i_1 ?_
        refine zw_iadd C dL_law_447 ?_
        obtain ⟨hi134, h⟩ := zg_e h
        refine zw_sld C hsc (zin_e hi134) dL_law_448 ?_
        obtain ⟨r136, M137, hq135, h⟩ := zbi_e h
        refine zw_callVi (As := [.int (xs (x3 + (1 : Int32)).toNatClampNeg)]) (st := []) C (m_X11_ahead C.2.2.2.2.2.2.2.1 hq135) kv_X11_ahead gw_3_50 (by decide) (by decide) (zc_0 E) rfl rfl rfl rfl (Nat.le_of_ble_eq_true rfl) dL_law_449 ?_
        refine zw_aload_n C 2 rfl dL_law_452 rfl ?_
        refine zw_aload_n C 0 rfl dL_law_453 rfl ?_
        refine zw_iload_n C 3 rfl dL_law_454 rfl ?_
        refine zw_iconst (v := (1 : Int32)) C dL_law_455 ct_i_1 ?_
        refine zw_iadd C dL_law_456 ?_
        obtain ⟨hi138, h⟩ := zg_e h
        refine zw_sld C hsc (zin_e hi138) dL_law_457 ?_
        obtain ⟨r140, M141, hq139, h⟩ := zbi_e h
        refine zw_callVi (As := [.int (xs (x3 + (1 : Int32)).toNatClampNeg)]) (st := [.int r136]) C (m_X12_ahead C.2.2.2.2.2.2.2.1 hq139) kv_X12_ahead gw_4_229 (by decide) (by decide) (zc_25 E) rfl rfl rfl rfl (Nat.le_of_ble_eq_true rfl) dL_law_458 ?_
        refine zw_icmp_eq (tgt := 707) C dL_law_461 (by decide) (fun hb142 => ?_) (fun hb142 => ?_)
        · have h := zt_ hb142 h
          refine zw_iinc (lv' := [(3, .int (x3 + (4 : Int32))), (0, .ref b), (1, .ref (E.2.1 0)), (2, .ref (E.2.1 25))]) C 3 rfl dL_law_707 (ct_n_4 _) (by decide) rfl ?_
          refine zw_goto (tgt := 18) C dL_law_710 (by decide) ?_
          refine zw_sb [1, 2, 3, 0] rfl ?_
          exact ih _ _ h
        · have h := zf_ hb142 h
          refine zw_iconst (v := (0 : Int32)) C dL_law_464 ct_i_0 ?_
          exact absurd h zw_not01
      have h := zf_ hb133 h
      by_cases hb143 : ((xs x3.toNatClampNeg) &&& (31 : Int32)) = (14 : Int32)
      · have h := zt_ hb143 h
        refine zw_tabIn (v := (14 : Int32)) (tgt := 466) C hb143 dL_law_32 (by decide) (by decide) rfl (by decide) ?_
        refine zw_aload_n C 1 rfl dL_law_466 rfl ?_
        refine zw_aload_n C 0 rfl dL_law_467 rfl ?_
        refine zw_iload_n C 3 rfl dL_law_468 rfl ?_
        refine zw_iconst (v := (1 : Int32)) C dL_law_469 ct_i_1 ?_
        refine zw_iadd C dL_law_470 ?_
        obtain ⟨hi144, h⟩ := zg_e h
        refine zw_sld C hsc (zin_e hi144) dL_law_471 ?_
        refine zw_aload_n C 0 rfl dL_law_472 rfl ?_
        refine zw_iload_n C 3 rfl dL_law_473 rfl ?_
        refine zw_iconst (v := (2 : Int32)) C dL_law_474 ct_i_2 ?_
        refine zw_iadd C dL_law_475 ?_
        obtain ⟨hi145, h⟩ := zg_e h
        refine zw_sld C hsc (zin_e hi145) dL_law_476 ?_
        obtain ⟨r147, M148, hq146, h⟩ := zbi_e h
        refine zw_callVi (As := [.int (xs (x3 + (1 : Int32)).toNatClampNeg), .int (xs (x3 + (2 : Int32)).toNatClampNeg)]) (st := []) C (m_X11_odds C.2.2.2.2.2.2.2.1 hq146) kv_X11_odds gw_3_54 (by decide) (by decide) (zc_0 E) rfl rfl rfl rfl (Nat.le_of_ble_eq_true rfl) dL_law_477 ?_
        refine zw_aload_n C 2 rfl dL_law_480 rfl ?_
        refine zw_aload_n C 0 rfl dL_law_481 rfl ?_
        refine zw_iload_n C 3 rfl dL_law_482 rfl ?_
        refine zw_iconst (v := (1 : Int32)) C dL_law_483 ct_i_1 ?_
        refine zw_iadd C dL_law_484 ?_
        obtain ⟨hi149, h⟩ := zg_e h
        refine zw_sld C hsc (zin_e hi149) dL_law_485 ?_
        refine zw_aload_n C 0 rfl dL_law_486 rfl ?_
        refine zw_iload_n C 3 rfl dL_law_487 rfl ?_
        refine zw_iconst (v := (2 : Int32)) C dL_law_488 ct_i_2 ?_
        refine zw_iadd C dL_law_489 ?_
        obtain ⟨hi150, h⟩ := zg_e h
        refine zw_sld C hsc (zin_e hi150) dL_law_490 ?_
        obtain ⟨r152, M153, hq151, h⟩ := zbi_e h
        refine zw_callVi (As := [.int (xs (x3 + (1 : Int32)).toNatClampNeg), .int (xs (x3 + (2 : Int32)).toNatClampNeg)]) (st := [.int r147]) C (m_X12_odds C.2.2.2.2.2.2.2.1 hq151) kv_X12_odds gw_4_233 (by decide) (by decide) (zc_25 E) rfl rfl rfl rfl (Nat.le_of_ble_eq_true rfl) dL_law_491 ?_
        refine zw_icmp_eq (tgt := 707) C dL_law_494 (by decide) (fun hb154 => ?_) (fun hb154 => ?_)
        · have h := zt_ hb154 h
          refine zw_iinc (lv' := [(3, .int (x3 + (4 : Int32))), (0, .ref b), (1, .ref (E.2.1 0)), (2, .ref (E.2.1 25))]) C 3 rfl dL_law_707 (ct_n_4 _) (by decide) rfl ?_
          refine zw_goto (tgt := 18) C dL_law_710 (by decide) ?_
          refine zw_sb [1, 2, 3, 0] rfl ?_
          exact ih _ _ h
        · have h := zf_ hb154 h
          refine zw_iconst (v := (0 : Int32)) C dL_law_497 ct_i_0 ?_
          exact absurd h zw_not01
      have h := zf_ hb143 h
      by_cases hb155 : ((xs x3.toNatClampNeg) &&& (31 : Int32)) = (15 : Int32)
      · have h := zt_ hb155 h
        refine zw_tabIn (v := (15 : Int32)) (tgt := 499) C hb155 dL_law_32 (by decide) (by decide) rfl (by decide) ?_
        refine zw_aload_n C 1 rfl dL_law_499 rfl ?_
        refine zw_aload_n C 0 rfl dL_law_500 rfl ?_
        refine zw_iload_n C 3 rfl dL_law_501 rfl ?_
        refine zw_iconst (v := (1 : Int32)) C dL_law_502 ct_i_1 ?_
        refine zw_iadd C dL_law_503 ?_
        obtain ⟨hi156, h⟩ := zg_e h
        refine zw_sld C hsc (zin_e hi156) dL_law_504 ?_
        refine zw_aload_n C 0 rfl dL_law_505 rfl ?_
        refine zw_iload_n C 3 rfl dL_law_506 rfl ?_
        refine zw_iconst (v := (2 : Int32)) C dL_law_507 ct_i_2 ?_
        refine zw_iadd C dL_law_508 ?_
        obtain ⟨hi157, h⟩ := zg_e h
        refine zw_sld C hsc (zin_e hi157) dL_law_509 ?_
        refine zw_aload_n C 0 rfl dL_law_510 rfl ?_
        refine zw_iload_n C 3 rfl dL_law_511 rfl ?_
        refine zw_iconst (v := (3 : Int32)) C dL_law_512 ct_i_3 ?_
        refine zw_iadd C dL_law_513 ?_
        obtain ⟨hi158, h⟩ := zg_e h
        refine zw_sld C hsc (zin_e hi158) dL_law_514 ?_
        obtain ⟨r160, M161, hq159, h⟩ := zbi_e h
        refine zw_callVi (As := [.int (xs (x3 + (1 : Int32)).toNatClampNeg), .int (xs (x3 + (2 : Int32)).toNatClampNeg), .int (xs (x3 + (3 : Int32)).toNatClampNeg)]) (st := []) C (m_X11_sees C.2.2.2.2.2.2.2.1 hq159) kv_X11_sees gw_3_83 (by decide) (by decide) (zc_0 E) rfl rfl rfl rfl (Nat.le_of_ble_eq_true rfl) dL_law_515 ?_
        refine zw_aload_n C 2 rfl dL_law_518 rfl ?_
        refine zw_aload_n C 0 rfl dL_law_519 rfl ?_
        refine zw_iload_n C 3 rfl dL_law_520 rfl ?_
        refine zw_iconst (v := (1 : Int32)) C dL_law_521 ct_i_1 ?_
        refine zw_iadd C dL_law_522 ?_
        obtain ⟨hi162, h⟩ := zg_e h
        refine zw_sld C hsc (zin_e hi162) dL_law_523 ?_
        refine zw_aload_n C 0 rfl dL_law_524 rfl ?_
        refine zw_iload_n C 3 rfl dL_law_525 rfl ?_
        refine zw_iconst (v := (2 : Int32)) C dL_law_526 ct_i_2 ?_
        refine zw_iadd C dL_law_527 ?_
        obtain ⟨hi163, h⟩ := zg_e h
        refine zw_sld C hsc (zin_e hi163) dL_law_528 ?_
        refine zw_aload_n C 0 rfl dL_law_529 rfl ?_
        refine zw_iload_n C 3 rfl dL_law_530 rfl ?_
        refine zw_iconst (v := (3 : Int32)) C dL_law_531 ct_i_3 ?_
        refine zw_iadd C dL_law_532 ?_
        obtain ⟨hi164, h⟩ := zg_e h
        refine zw_sld C hsc (zin_e hi164) dL_law_533 ?_
        obtain ⟨r166, M167, hq165, h⟩ := zbi_e h
        refine zw_callVi (As := [.int (xs (x3 + (1 : Int32)).toNatClampNeg), .int (xs (x3 + (2 : Int32)).toNatClampNeg), .int (xs (x3 + (3 : Int32)).toNatClampNeg)]) (st := [.int r160]) C (m_X12_sees C.2.2.2.2.2.2.2.1 hq165) kv_X12_sees gw_5_1 (by decide) (by decide) (zc_25 E) rfl rfl rfl rfl (Nat.le_of_ble_eq_true rfl) dL_law_534 ?_
        refine zw_icmp_eq (tgt := 707) C dL_law_537 (by decide) (fun hb168 => ?_) (fun hb168 => ?_)
        · have h := zt_ hb168 h
          refine zw_iinc (lv' := [(3, .int (x3 + (4 : Int32))), (0, .ref b), (1, .ref (E.2.1 0)), (2, .ref (E.2.1 25))]) C 3 rfl dL_law_707 (ct_n_4 _) (by decide) rfl ?_
          refine zw_goto (tgt := 18) C dL_law_710 (by decide) ?_
          refine zw_sb [1, 2, 3, 0] rfl ?_
          exact ih _ _ h
        · have h := zf_ hb168 h
          refine zw_iconst (v := (0 : Int32)) C dL_law_540 ct_i_0 ?_
          exact absurd h zw_not01
      have h := zf_ hb155 h
      by_cases hb169 : ((xs x3.toNatClampNeg) &&& (31 : Int32)) = (16 : Int32)
      · have h := zt_ hb169 h
        refine zw_tabIn (v := (16 : Int32)) (tgt := 542) C hb169 dL_law_32 (by decide) (by decide) rfl (by decide) ?_
        refine zw_aload_n C 1 rfl dL_law_542 rfl ?_
        obtain ⟨r171, M172, hq170, h⟩ := zbi_e h
        refine zw_callVi (As := []) (st := []) C (m_X11_forget C.2.2.2.2.2.2.2.1 hq170) kv_X11_forget gw_3_97 (by decide) (by decide) (zc_0 E) rfl rfl rfl rfl (Nat.le_of_ble_eq_true rfl) dL_law_543 ?_
        refine zw_aload_n C 2 rfl dL_law_546 rfl ?_
        obtain ⟨r174, M175, hq173, h⟩ := zbi_e h
        refine zw_callVi (As := []) (st := [.int r171]) C (m_X12_forget C.2.2.2.2.2.2.2.1 hq173) kv_X12_forget gw_5_7 (by decide) (by decide) (zc_25 E) rfl rfl rfl rfl (Nat.le_of_ble_eq_true rfl) dL_law_547 ?_
        refine zw_icmp_eq (tgt := 707) C dL_law_550 (by decide) (fun hb176 => ?_) (fun hb176 => ?_)
        · have h := zt_ hb176 h
          refine zw_iinc (lv' := [(3, .int (x3 + (4 : Int32))), (0, .ref b), (1, .ref (E.2.1 0)), (2, .ref (E.2.1 25))]) C 3 rfl dL_law_707 (ct_n_4 _) (by decide) rfl ?_
          refine zw_goto (tgt := 18) C dL_law_710 (by decide) ?_
          refine zw_sb [1, 2, 3, 0] rfl ?_
          exact ih _ _ h
        · have h := zf_ hb176 h
          refine zw_iconst (v := (0 : Int32)) C dL_law_553 ct_i_0 ?_
          exact absurd h zw_not01
      have h := zf_ hb169 h
      by_cases hb177 : ((xs x3.toNatClampNeg) &&& (31 : Int32)) = (17 : Int32)
      · have h := zt_ hb177 h
        refine zw_tabIn (v := (17 : Int32)) (tgt := 555) C hb177 dL_law_32 (by decide) (by decide) rfl (by decide) ?_
        refine zw_aload_n C 1 rfl dL_law_555 rfl ?_
        obtain ⟨r179, M180, hq178, h⟩ := zbi_e h
        refine zw_callVi (As := []) (st := []) C (m_X11_which C.2.2.2.2.2.2.2.1 hq178) kv_X11_which gw_3_101 (by decide) (by decide) (zc_0 E) rfl rfl rfl rfl (Nat.le_of_ble_eq_true rfl) dL_law_556 ?_
        refine zw_aload_n C 2 rfl dL_law_559 rfl ?_
        obtain ⟨r182, M183, hq181, h⟩ := zbi_e h
        refine zw_callVi (As := []) (st := [.int r179]) C (m_X12_which C.2.2.2.2.2.2.2.1 hq181) kv_X12_which gw_5_11 (by decide) (by decide) (zc_25 E) rfl rfl rfl rfl (Nat.le_of_ble_eq_true rfl) dL_law_560 ?_
        refine zw_icmp_eq (tgt := 707) C dL_law_563 (by decide) (fun hb184 => ?_) (fun hb184 => ?_)
        · have h := zt_ hb184 h
          refine zw_iinc (lv' := [(3, .int (x3 + (4 : Int32))), (0, .ref b), (1, .ref (E.2.1 0)), (2, .ref (E.2.1 25))]) C 3 rfl dL_law_707 (ct_n_4 _) (by decide) rfl ?_
          refine zw_goto (tgt := 18) C dL_law_710 (by decide) ?_
          refine zw_sb [1, 2, 3, 0] rfl ?_
          exact ih _ _ h
        · have h := zf_ hb184 h
          refine zw_iconst (v := (0 : Int32)) C dL_law_566 ct_i_0 ?_
          exact absurd h zw_not01
      have h := zf_ hb177 h
      by_cases hb185 : ((xs x3.toNatClampNeg) &&& (31 : Int32)) = (18 : Int32)
      · have h := zt_ hb185 h
        refine zw_tabIn (v := (18 : Int32)) (tgt := 568) C hb185 dL_law_32 (by decide) (by decide) rfl (by decide) ?_
        refine zw_aload_n C 1 rfl dL_law_568 rfl ?_
        refine zw_aload_n C 0 rfl dL_law_569 rfl ?_
        refine zw_iload_n C 3 rfl dL_law_570 rfl ?_
        refine zw_iconst (v := (1 : Int32)) C dL_law_571 ct_i_1 ?_
        refine zw_iadd C dL_law_572 ?_
        obtain ⟨hi186, h⟩ := zg_e h
        refine zw_sld C hsc (zin_e hi186) dL_law_573 ?_
        obtain ⟨r188, M189, hq187, h⟩ := zbi_e h
        refine zw_callVi (As := [.int (xs (x3 + (1 : Int32)).toNatClampNeg)]) (st := []) C (m_X11_look C.2.2.2.2.2.2.2.1 hq187) kv_X11_look gw_3_119 (by decide) (by decide) (zc_0 E) rfl rfl rfl rfl (Nat.le_of_ble_eq_true rfl) dL_law_574 ?_
        refine zw_aload_n C 2 rfl dL_law_577 rfl ?_
        refine zw_aload_n C 0 rfl dL_law_578 rfl ?_
        refine zw_iload_n C 3 rfl dL_law_579 rfl ?_
        refine zw_iconst (v := (1 : Int32)) C dL_law_580 ct_i_1 ?_
        refine zw_iadd C dL_law_581 ?_
        obtain ⟨hi190, h⟩ := zg_e h
        refine zw_sld C hsc (zin_e hi190) dL_law_582 ?_
        obtain ⟨r192, M193, hq191, h⟩ := zbi_e h
        refine zw_callVi (As := [.int (xs (x3 + (1 : Int32)).toNatClampNeg)]) (st := [.int r188]) C (m_X12_look C.2.2.2.2.2.2.2.1 hq191) kv_X12_look gw_5_19 (by decide) (by decide) (zc_25 E) rfl rfl rfl rfl (Nat.le_of_ble_eq_true rfl) dL_law_583 ?_
        refine zw_icmp_eq (tgt := 707) C dL_law_586 (by decide) (fun hb194 => ?_) (fun hb194 => ?_)
        · have h := zt_ hb194 h
          refine zw_iinc (lv' := [(3, .int (x3 + (4 : Int32))), (0, .ref b), (1, .ref (E.2.1 0)), (2, .ref (E.2.1 25))]) C 3 rfl dL_law_707 (ct_n_4 _) (by decide) rfl ?_
          refine zw_goto (tgt := 18) C dL_law_710 (by decide) ?_
          refine zw_sb [1, 2, 3, 0] rfl ?_
          exact ih _ _ h
        · have h := zf_ hb194 h
          refine zw_iconst (v := (0 : Int32)) C dL_law_589 ct_i_0 ?_
          exact absurd h zw_not01
      have h := zf_ hb185 h
      by_cases hb195 : ((xs x3.toNatClampNeg) &&& (31 : Int32)) = (19 : Int32)
      · have h := zt_ hb195 h
        refine zw_tabIn (v := (19 : Int32)) (tgt := 591) C hb195 dL_law_32 (by decide) (by decide) rfl (by decide) ?_
        refine zw_aload_n C 1 rfl dL_law_591 rfl ?_
        refine zw_aload_n C 0 rfl dL_law_592 rfl ?_
        refine zw_iload_n C 3 rfl dL_law_593 rfl ?_
        refine zw_iconst (v := (1 : Int32)) C dL_law_594 ct_i_1 ?_
        refine zw_iadd C dL_law_595 ?_
        obtain ⟨hi196, h⟩ := zg_e h
        refine zw_sld C hsc (zin_e hi196) dL_law_596 ?_
        refine zw_aload_n C 0 rfl dL_law_597 rfl ?_
        refine zw_iload_n C 3 rfl dL_law_598 rfl ?_
        refine zw_iconst (v := (2 : Int32)) C dL_law_599 ct_i_2 ?_
        refine zw_iadd C dL_law_600 ?_
        obtain ⟨hi197, h⟩ := zg_e h
        refine zw_sld C hsc (zin_e hi197) dL_law_601 ?_
        obtain ⟨r199, M200, hq198, h⟩ := zbi_e h
        refine zw_callVi (As := [.int (xs (x3 + (1 : Int32)).toNatClampNeg), .int (xs (x3 + (2 : Int32)).toNatClampNeg)]) (st := []) C (m_X11_rate C.2.2.2.2.2.2.2.1 hq198) kv_X11_rate gw_3_132 (by decide) (by decide) (zc_0 E) rfl rfl rfl rfl (Nat.le_of_ble_eq_true rfl) dL_law_602 ?_
        refine zw_aload_n C 2 rfl dL_law_605 rfl ?_
        refine zw_aload_n C 0 rfl dL_law_606 rfl ?_
        refine zw_iload_n C 3 rfl dL_law_607 rfl ?_
        refine zw_iconst (v := (1 : Int32)) C dL_law_608 ct_i_1 ?_
        refine zw_iadd C dL_law_609 ?_
        obtain ⟨hi201, h⟩ := zg_e h
        refine zw_sld C hsc (zin_e hi201) dL_law_610 ?_
        refine zw_aload_n C 0 rfl dL_law_611 rfl ?_
        refine zw_iload_n C 3 rfl dL_law_612 rfl ?_
        refine zw_iconst (v := (2 : Int32)) C dL_law_613 ct_i_2 ?_
        refine zw_iadd C dL_law_614 ?_
        obtain ⟨hi202, h⟩ := zg_e h
        refine zw_sld C hsc (zin_e hi202) dL_law_615 ?_
        obtain ⟨r204, M205, hq203, h⟩ := zbi_e h
        refine zw_callVi (As := [.int (xs (x3 + (1 : Int32)).toNatClampNeg), .int (xs (x3 + (2 : Int32)).toNatClampNeg)]) (st := [.int r199]) C (m_X12_rate C.2.2.2.2.2.2.2.1 hq203) kv_X12_rate gw_5_24 (by decide) (by decide) (zc_25 E) rfl rfl rfl rfl (Nat.le_of_ble_eq_true rfl) dL_law_616 ?_
        refine zw_icmp_eq (tgt := 707) C dL_law_619 (by decide) (fun hb206 => ?_) (fun hb206 => ?_)
        · have h := zt_ hb206 h
          refine zw_iinc (lv' := [(3, .int (x3 + (4 : Int32))), (0, .ref b), (1, .ref (E.2.1 0)), (2, .ref (E.2.1 25))]) C 3 rfl dL_law_707 (ct_n_4 _) (by decide) rfl ?_
          refine zw_goto (tgt := 18) C dL_law_710 (by decide) ?_
          refine zw_sb [1, 2, 3, 0] rfl ?_
          exact ih _ _ h
        · have h := zf_ hb206 h
          refine zw_iconst (v := (0 : Int32)) C dL_law_622 ct_i_0 ?_
          exact absurd h zw_not01
      have h := zf_ hb195 h
      by_cases hb207 : ((xs x3.toNatClampNeg) &&& (31 : Int32)) = (20 : Int32)
      · have h := zt_ hb207 h
        refine zw_tabIn (v := (20 : Int32)) (tgt := 624) C hb207 dL_law_32 (by decide) (by decide) rfl (by decide) ?_
        refine zw_aload_n C 1 rfl dL_law_624 rfl ?_
        refine zw_aload_n C 0 rfl dL_law_625 rfl ?_
        refine zw_iload_n C 3 rfl dL_law_626 rfl ?_
        refine zw_iconst (v := (1 : Int32)) C dL_law_627 ct_i_1 ?_
        refine zw_iadd C dL_law_628 ?_
        obtain ⟨hi208, h⟩ := zg_e h
        refine zw_sld C hsc (zin_e hi208) dL_law_629 ?_
        obtain ⟨r210, M211, hq209, h⟩ := zbi_e h
        refine zw_callVi (As := [.int (xs (x3 + (1 : Int32)).toNatClampNeg)]) (st := []) C (m_X11_keep C.2.2.2.2.2.2.2.1 hq209) kv_X11_keep gw_3_173 (by decide) (by decide) (zc_0 E) rfl rfl rfl rfl (Nat.le_of_ble_eq_true rfl) dL_law_630 ?_
        refine zw_aload_n C 2 rfl dL_law_633 rfl ?_
        refine zw_aload_n C 0 rfl dL_law_634 rfl ?_
        refine zw_iload_n C 3 rfl dL_law_635 rfl ?_
        refine zw_iconst (v := (1 : Int32)) C dL_law_636 ct_i_1 ?_
        refine zw_iadd C dL_law_637 ?_
        obtain ⟨hi212, h⟩ := zg_e h
        refine zw_sld C hsc (zin_e hi212) dL_law_638 ?_
        obtain ⟨r214, M215, hq213, h⟩ := zbi_e h
        refine zw_callVi (As := [.int (xs (x3 + (1 : Int32)).toNatClampNeg)]) (st := [.int r210]) C (m_X12_keep C.2.2.2.2.2.2.2.1 hq213) kv_X12_keep gw_5_45 (by decide) (by decide) (zc_25 E) rfl rfl rfl rfl (Nat.le_of_ble_eq_true rfl) dL_law_639 ?_
        refine zw_icmp_eq (tgt := 707) C dL_law_642 (by decide) (fun hb216 => ?_) (fun hb216 => ?_)
        · have h := zt_ hb216 h
          refine zw_iinc (lv' := [(3, .int (x3 + (4 : Int32))), (0, .ref b), (1, .ref (E.2.1 0)), (2, .ref (E.2.1 25))]) C 3 rfl dL_law_707 (ct_n_4 _) (by decide) rfl ?_
          refine zw_goto (tgt := 18) C dL_law_710 (by decide) ?_
          refine zw_sb [1, 2, 3, 0] rfl ?_
          exact ih _ _ h
        · have h := zf_ hb216 h
          refine zw_iconst (v := (0 : Int32)) C dL_law_645 ct_i_0 ?_
          exact absurd h zw_not01
      have h := zf_ hb207 h
      by_cases hb217 : ((xs x3.toNatClampNeg) &&& (31 : Int32)) = (21 : Int32)
      · have h := zt_ hb217 h
        refine zw_tabIn (v := (21 : Int32)) (tgt := 647) C hb217 dL_law_32 (by decide) (by decide) rfl (by decide) ?_
        refine zw_aload_n C 1 rfl dL_law_647 rfl ?_
        refine zw_aload_n C 0 rfl dL_law_648 rfl ?_
        refine zw_iload_n C 3 rfl dL_law_649 rfl ?_
        refine zw_iconst (v := (1 : Int32)) C dL_law_650 ct_i_1 ?_
        refine zw_iadd C dL_law_651 ?_
        obtain ⟨hi218, h⟩ := zg_e h
        refine zw_sld C hsc (zin_e hi218) dL_law_652 ?_
        obtain ⟨r220, M221, hq219, h⟩ := zbi_e h
        refine zw_callVi (As := [.int (xs (x3 + (1 : Int32)).toNatClampNeg)]) (st := []) C (m_X11_back C.2.2.2.2.2.2.2.1 hq219) kv_X11_back gw_3_177 (by decide) (by decide) (zc_0 E) rfl rfl rfl rfl (Nat.le_of_ble_eq_true rfl) dL_law_653 ?_
        refine zw_aload_n C 2 rfl dL_law_656 rfl ?_
        refine zw_aload_n C 0 rfl dL_law_657 rfl ?_
        refine zw_iload_n C 3 rfl dL_law_658 rfl ?_
        refine zw_iconst (v := (1 : Int32)) C dL_law_659 ct_i_1 ?_
        refine zw_iadd C dL_law_660 ?_
        obtain ⟨hi222, h⟩ := zg_e h
        refine zw_sld C hsc (zin_e hi222) dL_law_661 ?_
        obtain ⟨r224, M225, hq223, h⟩ := zbi_e h
        refine zw_callVi (As := [.int (xs (x3 + (1 : Int32)).toNatClampNeg)]) (st := [.int r220]) C (m_X12_back C.2.2.2.2.2.2.2.1 hq223) kv_X12_back gw_5_49 (by decide) (by decide) (zc_25 E) rfl rfl rfl rfl (Nat.le_of_ble_eq_true rfl) dL_law_662 ?_
        refine zw_icmp_eq (tgt := 707) C dL_law_665 (by decide) (fun hb226 => ?_) (fun hb226 => ?_)
        · have h := zt_ hb226 h
          refine zw_iinc (lv' := [(3, .int (x3 + (4 : Int32))), (0, .ref b), (1, .ref (E.2.1 0)), (2, .ref (E.2.1 25))]) C 3 rfl dL_law_707 (ct_n_4 _) (by decide) rfl ?_
          refine zw_goto (tgt := 18) C dL_law_710 (by decide) ?_
          refine zw_sb [1, 2, 3, 0] rfl ?_
          exact ih _ _ h
        · have h := zf_ hb226 h
          refine zw_iconst (v := (0 : Int32)) C dL_law_668 ct_i_0 ?_
          exact absurd h zw_not01
      have h := zf_ hb217 h
      by_cases hb227 : ((xs x3.toNatClampNeg) &&& (31 : Int32)) = (22 : Int32)
      · have h := zt_ hb227 h
        refine zw_tabIn (v := (22 : Int32)) (tgt := 670) C hb227 dL_law_32 (by decide) (by decide) rfl (by decide) ?_
        refine zw_aload_n C 1 rfl dL_law_670 rfl ?_
        refine zw_aload_n C 0 rfl dL_law_671 rfl ?_
        refine zw_iload_n C 3 rfl dL_law_672 rfl ?_
        refine zw_iconst (v := (1 : Int32)) C dL_law_673 ct_i_1 ?_
        refine zw_iadd C dL_law_674 ?_
        obtain ⟨hi228, h⟩ := zg_e h
        refine zw_sld C hsc (zin_e hi228) dL_law_675 ?_
        obtain ⟨r230, M231, hq229, h⟩ := zbi_e h
        refine zw_callVi (As := [.int (xs (x3 + (1 : Int32)).toNatClampNeg)]) (st := []) C (m_X11_count C.2.2.2.2.2.2.2.1 hq229) kv_X11_count gw_3_181 (by decide) (by decide) (zc_0 E) rfl rfl rfl rfl (Nat.le_of_ble_eq_true rfl) dL_law_676 ?_
        refine zw_aload_n C 2 rfl dL_law_679 rfl ?_
        refine zw_aload_n C 0 rfl dL_law_680 rfl ?_
        refine zw_iload_n C 3 rfl dL_law_681 rfl ?_
        refine zw_iconst (v := (1 : Int32)) C dL_law_682 ct_i_1 ?_
        refine zw_iadd C dL_law_683 ?_
        obtain ⟨hi232, h⟩ := zg_e h
        refine zw_sld C hsc (zin_e hi232) dL_law_684 ?_
        obtain ⟨r234, M235, hq233, h⟩ := zbi_e h
        refine zw_callVi (As := [.int (xs (x3 + (1 : Int32)).toNatClampNeg)]) (st := [.int r230]) C (m_X12_count C.2.2.2.2.2.2.2.1 hq233) kv_X12_count gw_5_53 (by decide) (by decide) (zc_25 E) rfl rfl rfl rfl (Nat.le_of_ble_eq_true rfl) dL_law_685 ?_
        refine zw_icmp_eq (tgt := 707) C dL_law_688 (by decide) (fun hb236 => ?_) (fun hb236 => ?_)
        · have h := zt_ hb236 h
          refine zw_iinc (lv' := [(3, .int (x3 + (4 : Int32))), (0, .ref b), (1, .ref (E.2.1 0)), (2, .ref (E.2.1 25))]) C 3 rfl dL_law_707 (ct_n_4 _) (by decide) rfl ?_
          refine zw_goto (tgt := 18) C dL_law_710 (by decide) ?_
          refine zw_sb [1, 2, 3, 0] rfl ?_
          exact ih _ _ h
        · have h := zf_ hb236 h
          refine zw_iconst (v := (0 : Int32)) C dL_law_691 ct_i_0 ?_
          exact absurd h zw_not01
      have h := zf_ hb227 h
      by_cases hb237 : ((xs x3.toNatClampNeg) &&& (31 : Int32)) = (23 : Int32)
      · have h := zt_ hb237 h
        refine zw_tabIn (v := (23 : Int32)) (tgt := 693) C hb237 dL_law_32 (by decide) (by decide) rfl (by decide) ?_
        refine zw_aload_n C 1 rfl dL_law_693 rfl ?_
        obtain ⟨r239, M240, hq238, h⟩ := zbi_e h
        refine zw_callVi (As := []) (st := []) C (m_X11_trace C.2.2.2.2.2.2.2.1 hq238) kv_X11_trace gw_3_185 (by decide) (by decide) (zc_0 E) rfl rfl rfl rfl (Nat.le_of_ble_eq_true rfl) dL_law_694 ?_
        refine zw_aload_n C 2 rfl dL_law_697 rfl ?_
        obtain ⟨r242, M243, hq241, h⟩ := zbi_e h
        refine zw_callVi (As := []) (st := [.long r239]) C (m_X12_trace C.2.2.2.2.2.2.2.1 hq241) kv_X12_trace gw_5_57 (by decide) (by decide) (zc_25 E) rfl rfl rfl rfl (Nat.le_of_ble_eq_true rfl) dL_law_698 ?_
        refine zw_lcmp C dL_law_701 ?_
        refine zw_if_eq (tgt := 707) C dL_law_702 (by decide) (fun hb244 => ?_) (fun hb244 => ?_)
        · have h := zt_ hb244 h
          refine zw_iinc (lv' := [(3, .int (x3 + (4 : Int32))), (0, .ref b), (1, .ref (E.2.1 0)), (2, .ref (E.2.1 25))]) C 3 rfl dL_law_707 (ct_n_4 _) (by decide) rfl ?_
          refine zw_goto (tgt := 18) C dL_law_710 (by decide) ?_
          refine zw_sb [1, 2, 3, 0] rfl ?_
          exact ih _ _ h
        · have h := zf_ hb244 h
          refine zw_iconst (v := (0 : Int32)) C dL_law_705 ct_i_0 ?_
          exact absurd h zw_not01
      have h := zf_ hb237 h
      refine zw_tabOut (tgt := 707) C (by have e0 := lv_neT hb3 (show (0 : Int32).toInt = 0 by decide); have e1 := lv_neT hb13 (show (1 : Int32).toInt = 1 by decide); have e2 := lv_neT hb21 (show (2 : Int32).toInt = 2 by decide); have e3 := lv_neT hb29 (show (3 : Int32).toInt = 3 by decide); have e4 := lv_neT hb41 (show (4 : Int32).toInt = 4 by decide); have e5 := lv_neT hb53 (show (5 : Int32).toInt = 5 by decide); have e6 := lv_neT hb65 (show (6 : Int32).toInt = 6 by decide); have e7 := lv_neT hb75 (show (7 : Int32).toInt = 7 by decide); have e8 := lv_neT hb87 (show (8 : Int32).toInt = 8 by decide); have e9 := lv_neT hb95 (show (9 : Int32).toInt = 9 by decide); have e10 := lv_neT hb105 (show (10 : Int32).toInt = 10 by decide); have e11 := lv_neT hb115 (show (11 : Int32).toInt = 11 by decide); have e12 := lv_neT hb123 (show (12 : Int32).toInt = 12 by decide); have e13 := lv_neT hb133 (show (13 : Int32).toInt = 13 by decide); have e14 := lv_neT hb143 (show (14 : Int32).toInt = 14 by decide); have e15 := lv_neT hb155 (show (15 : Int32).toInt = 15 by decide); have e16 := lv_neT hb169 (show (16 : Int32).toInt = 16 by decide); have e17 := lv_neT hb177 (show (17 : Int32).toInt = 17 by decide); have e18 := lv_neT hb185 (show (18 : Int32).toInt = 18 by decide); have e19 := lv_neT hb195 (show (19 : Int32).toInt = 19 by decide); have e20 := lv_neT hb207 (show (20 : Int32).toInt = 20 by decide); have e21 := lv_neT hb217 (show (21 : Int32).toInt = 21 by decide); have e22 := lv_neT hb227 (show (22 : Int32).toInt = 22 by decide); have e23 := lv_neT hb237 (show (23 : Int32).toInt = 23 by decide); omega) dL_law_32 (by decide) ?_
      refine zw_iinc (lv' := [(3, .int (x3 + (4 : Int32))), (0, .ref b), (1, .ref (E.2.1 0)), (2, .ref (E.2.1 25))]) C 3 rfl dL_law_707 (ct_n_4 _) (by decide) rfl ?_
      refine zw_goto (tgt := 18) C dL_law_710 (by decide) ?_
      refine zw_sb [1, 2, 3, 0] rfl ?_
      exact ih _ _ h
