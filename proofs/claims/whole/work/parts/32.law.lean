def lp_L_law_18 (X : Int → Int) (L : Int) (N : Nat) (kx18 : jM → Prop) : Nat → Int → jM → Prop
  | 0, _, _ => False
  | n + 1, x1, M2 => (if x1 ≤ (jW (L - 7)) then (jB x1 L ∧ (if (jAnd (X x1) 63) = 0 then (jB (jW (x1 + 1)) L ∧ (w_X6_create N M2 0 (X (jW (x1 + 1))) (fun x6 M7 => (jB (jW (x1 + 1)) L ∧ (w_X7_create N M7 252 (X (jW (x1 + 1))) (fun x9 M10 => (if x6 = x9 then (jL (jW (x1 + 7)) (fun x11 => (lp_L_law_18 X L N kx18 n x11 M10))) else False))))))) else (if (jAnd (X x1) 63) = 1 then (jB (jW (x1 + 1)) L ∧ (jB (jW (x1 + 2)) L ∧ (w_X6_delete N M2 0 (X (jW (x1 + 1))) (X (jW (x1 + 2))) (fun x14 M15 => (jB (jW (x1 + 1)) L ∧ (jB (jW (x1 + 2)) L ∧ (w_X7_delete N M15 252 (X (jW (x1 + 1))) (X (jW (x1 + 2))) (fun x18 M19 => (if x14 = x18 then (jL (jW (x1 + 7)) (fun x20 => (lp_L_law_18 X L N kx18 n x20 M19))) else False))))))))) else (if (jAnd (X x1) 63) = 2 then (jB (jW (x1 + 1)) L ∧ (jB (jW (x1 + 2)) L ∧ (w_X6_lock N M2 0 (X (jW (x1 + 1))) (X (jW (x1 + 2))) (fun x23 M24 => (jB (jW (x1 + 1)) L ∧ (jB (jW (x1 + 2)) L ∧ (w_X7_lock N M24 252 (X (jW (x1 + 1))) (X (jW (x1 + 2))) (fun x27 M28 => (if x23 = x27 then (jL (jW (x1 + 7)) (fun x29 => (lp_L_law_18 X L N kx18 n x29 M28))) else False))))))))) else (if (jAnd (X x1) 63) = 3 then (jB (jW (x1 + 1)) L ∧ (jB (jW (x1 + 2)) L ∧ (w_X6_unlock N M2 0 (X (jW (x1 + 1))) (X (jW (x1 + 2))) (fun x32 M33 => (jB (jW (x1 + 1)) L ∧ (jB (jW (x1 + 2)) L ∧ (w_X7_unlock N M33 252 (X (jW (x1 + 1))) (X (jW (x1 + 2))) (fun x36 M37 => (if x32 = x36 then (jL (jW (x1 + 7)) (fun x38 => (lp_L_law_18 X L N kx18 n x38 M37))) else False))))))))) else (if (jAnd (X x1) 63) = 4 then (jB (jW (x1 + 1)) L ∧ (jB (jW (x1 + 2)) L ∧ (jB (jW (x1 + 3)) L ∧ (jB (jW (x1 + 4)) L ∧ (jB (jW (x1 + 5)) L ∧ (jB (jW (x1 + 6)) L ∧ (w_X6_insert N M2 0 (X (jW (x1 + 1))) (X (jW (x1 + 2))) (X (jW (x1 + 3))) (X (jW (x1 + 4))) (X (jW (x1 + 5))) (X (jW (x1 + 6))) (fun x45 M46 => (jB (jW (x1 + 1)) L ∧ (jB (jW (x1 + 2)) L ∧ (jB (jW (x1 + 3)) L ∧ (jB (jW (x1 + 4)) L ∧ (jB (jW (x1 + 5)) L ∧ (jB (jW (x1 + 6)) L ∧ (w_X7_insert N M46 252 (X (jW (x1 + 1))) (X (jW (x1 + 2))) (X (jW (x1 + 3))) (X (jW (x1 + 4))) (X (jW (x1 + 5))) (X (jW (x1 + 6))) (fun x53 M54 => (if x45 = x53 then (jL (jW (x1 + 7)) (fun x55 => (lp_L_law_18 X L N kx18 n x55 M54))) else False))))))))))))))))) else (if (jAnd (X x1) 63) = 5 then (jB (jW (x1 + 1)) L ∧ (jB (jW (x1 + 2)) L ∧ (jB (jW (x1 + 3)) L ∧ (jB (jW (x1 + 4)) L ∧ (jB (jW (x1 + 5)) L ∧ (jB (jW (x1 + 6)) L ∧ (w_X6_change N M2 0 (X (jW (x1 + 1))) (X (jW (x1 + 2))) (X (jW (x1 + 3))) (X (jW (x1 + 4))) (X (jW (x1 + 5))) (X (jW (x1 + 6))) (fun x62 M63 => (jB (jW (x1 + 1)) L ∧ (jB (jW (x1 + 2)) L ∧ (jB (jW (x1 + 3)) L ∧ (jB (jW (x1 + 4)) L ∧ (jB (jW (x1 + 5)) L ∧ (jB (jW (x1 + 6)) L ∧ (w_X7_change N M63 252 (X (jW (x1 + 1))) (X (jW (x1 + 2))) (X (jW (x1 + 3))) (X (jW (x1 + 4))) (X (jW (x1 + 5))) (X (jW (x1 + 6))) (fun x70 M71 => (if x62 = x70 then (jL (jW (x1 + 7)) (fun x72 => (lp_L_law_18 X L N kx18 n x72 M71))) else False))))))))))))))))) else (if (jAnd (X x1) 63) = 6 then (jB (jW (x1 + 1)) L ∧ (jB (jW (x1 + 2)) L ∧ (jB (jW (x1 + 3)) L ∧ (jB (jW (x1 + 4)) L ∧ (jB (jW (x1 + 5)) L ∧ (w_X6_remove N M2 0 (X (jW (x1 + 1))) (X (jW (x1 + 2))) (X (jW (x1 + 3))) (X (jW (x1 + 4))) (X (jW (x1 + 5))) (fun x78 M79 => (jB (jW (x1 + 1)) L ∧ (jB (jW (x1 + 2)) L ∧ (jB (jW (x1 + 3)) L ∧ (jB (jW (x1 + 4)) L ∧ (jB (jW (x1 + 5)) L ∧ (w_X7_remove N M79 252 (X (jW (x1 + 1))) (X (jW (x1 + 2))) (X (jW (x1 + 3))) (X (jW (x1 + 4))) (X (jW (x1 + 5))) (fun x85 M86 => (if x78 = x85 then (jL (jW (x1 + 7)) (fun x87 => (lp_L_law_18 X L N kx18 n x87 M86))) else False))))))))))))))) else (if (jAnd (X x1) 63) = 7 then (jB (jW (x1 + 1)) L ∧ (jB (jW (x1 + 2)) L ∧ (jB (jW (x1 + 3)) L ∧ (w_X6_removeLine N M2 0 (X (jW (x1 + 1))) (X (jW (x1 + 2))) (X (jW (x1 + 3))) (fun x91 M92 => (jB (jW (x1 + 1)) L ∧ (jB (jW (x1 + 2)) L ∧ (jB (jW (x1 + 3)) L ∧ (w_X7_removeLine N M92 252 (X (jW (x1 + 1))) (X (jW (x1 + 2))) (X (jW (x1 + 3))) (fun x96 M97 => (if x91 = x96 then (jL (jW (x1 + 7)) (fun x98 => (lp_L_law_18 X L N kx18 n x98 M97))) else False))))))))))) else (if (jAnd (X x1) 63) = 8 then (jB (jW (x1 + 1)) L ∧ (jB (jW (x1 + 2)) L ∧ (w_X6_load N M2 0 (X (jW (x1 + 1))) (X (jW (x1 + 2))) (fun x101 M102 => (jB (jW (x1 + 1)) L ∧ (jB (jW (x1 + 2)) L ∧ (w_X7_load N M102 252 (X (jW (x1 + 1))) (X (jW (x1 + 2))) (fun x105 M106 => (if x101 = x105 then (jL (jW (x1 + 7)) (fun x107 => (lp_L_law_18 X L N kx18 n x107 M106))) else False))))))))) else (if (jAnd (X x1) 63) = 9 then (jB (jW (x1 + 1)) L ∧ (jB (jW (x1 + 2)) L ∧ (jL (fun (x110 : Int) => (w_X6_associate N M2 0 (X (jW (x1 + 1))) x110 (fun x112 M113 => (jB (jW (x1 + 1)) L ∧ (jB (jW (x1 + 2)) L ∧ (if (X (jW (x1 + 2))) = 0 then (w_X7_associate N M113 252 (X (jW (x1 + 1))) 0 (fun x116 M117 => (if x112 = x116 then (jL (jW (x1 + 7)) (fun x118 => (lp_L_law_18 X L N kx18 n x118 M117))) else False))) else (w_X7_associate N M113 252 (X (jW (x1 + 1))) 1 (fun x119 M120 => (if x112 = x119 then (jL (jW (x1 + 7)) (fun x121 => (lp_L_law_18 X L N kx18 n x121 M120))) else False))))))))) (fun j626_111 => (if (X (jW (x1 + 2))) = 0 then (j626_111 0) else (j626_111 1)))))) else (if (jAnd (X x1) 63) = 10 then (jB (jW (x1 + 1)) L ∧ (jB (jW (x1 + 2)) L ∧ (jB (jW (x1 + 3)) L ∧ (jB (jW (x1 + 4)) L ∧ (w_X6_define N M2 0 (X (jW (x1 + 1))) (X (jW (x1 + 2))) (X (jW (x1 + 3))) (X (jW (x1 + 4))) (fun x126 M127 => (jB (jW (x1 + 1)) L ∧ (jB (jW (x1 + 2)) L ∧ (jB (jW (x1 + 3)) L ∧ (jB (jW (x1 + 4)) L ∧ (w_X7_define N M127 252 (X (jW (x1 + 1))) (X (jW (x1 + 2))) (X (jW (x1 + 3))) (X (jW (x1 + 4))) (fun x132 M133 => (if x126 = x132 then (jL (jW (x1 + 7)) (fun x134 => (lp_L_law_18 X L N kx18 n x134 M133))) else False))))))))))))) else (if (jAnd (X x1) 63) = 11 then (jB (jW (x1 + 1)) L ∧ (jB (jW (x1 + 2)) L ∧ (jB (jW (x1 + 3)) L ∧ (jB (jW (x1 + 4)) L ∧ (jL (fun (x139 : Int) => (jB (jW (x1 + 5)) L ∧ (w_X6_select N M2 0 (X (jW (x1 + 1))) (X (jW (x1 + 2))) (X (jW (x1 + 3))) x139 (X (jW (x1 + 5))) (fun x142 M143 => (jB (jW (x1 + 1)) L ∧ (jB (jW (x1 + 2)) L ∧ (jB (jW (x1 + 3)) L ∧ (jB (jW (x1 + 4)) L ∧ (if (X (jW (x1 + 4))) = 0 then (jB (jW (x1 + 5)) L ∧ (w_X7_select N M143 252 (X (jW (x1 + 1))) (X (jW (x1 + 2))) (X (jW (x1 + 3))) 0 (X (jW (x1 + 5))) (fun x149 M150 => (if x142 = x149 then (jL (jW (x1 + 7)) (fun x151 => (lp_L_law_18 X L N kx18 n x151 M150))) else False)))) else (jB (jW (x1 + 5)) L ∧ (w_X7_select N M143 252 (X (jW (x1 + 1))) (X (jW (x1 + 2))) (X (jW (x1 + 3))) 1 (X (jW (x1 + 5))) (fun x153 M154 => (if x142 = x153 then (jL (jW (x1 + 7)) (fun x155 => (lp_L_law_18 X L N kx18 n x155 M154))) else False))))))))))))) (fun j738_140 => (if (X (jW (x1 + 4))) = 0 then (j738_140 0) else (j738_140 1)))))))) else (if (jAnd (X x1) 63) = 12 then (jB (jW (x1 + 1)) L ∧ (jB (jW (x1 + 2)) L ∧ (jB (jW (x1 + 3)) L ∧ (jB (jW (x1 + 4)) L ∧ (w_X6_combine N M2 0 (X (jW (x1 + 1))) (X (jW (x1 + 2))) (X (jW (x1 + 3))) (X (jW (x1 + 4))) (fun x160 M161 => (jB (jW (x1 + 1)) L ∧ (jB (jW (x1 + 2)) L ∧ (jB (jW (x1 + 3)) L ∧ (jB (jW (x1 + 4)) L ∧ (w_X7_combine N M161 252 (X (jW (x1 + 1))) (X (jW (x1 + 2))) (X (jW (x1 + 3))) (X (jW (x1 + 4))) (fun x166 M167 => (if x160 = x166 then (jL (jW (x1 + 7)) (fun x168 => (lp_L_law_18 X L N kx18 n x168 M167))) else False))))))))))))) else (if (jAnd (X x1) 63) = 13 then (jB (jW (x1 + 1)) L ∧ (w_X6_clearList N M2 0 (X (jW (x1 + 1))) (fun x170 M171 => (jB (jW (x1 + 1)) L ∧ (w_X7_clearList N M171 252 (X (jW (x1 + 1))) (fun x173 M174 => (if x170 = x173 then (jL (jW (x1 + 7)) (fun x175 => (lp_L_law_18 X L N kx18 n x175 M174))) else False))))))) else (if (jAnd (X x1) 63) = 14 then (jB (jW (x1 + 1)) L ∧ (w_X6_append M2 0 (X (jW (x1 + 1))) (fun x177 M178 => (jB (jW (x1 + 1)) L ∧ (w_X7_append M178 252 (X (jW (x1 + 1))) (fun x180 M181 => (if x177 = x180 then (jL (jW (x1 + 7)) (fun x182 => (lp_L_law_18 X L N kx18 n x182 M181))) else False))))))) else (if (jAnd (X x1) 63) = 15 then (w_X6_clearText M2 0 (fun x183 M184 => (w_X7_clearText M184 252 (fun x185 M186 => (if x183 = x185 then (jL (jW (x1 + 7)) (fun x187 => (lp_L_law_18 X L N kx18 n x187 M186))) else False))))) else (if (jAnd (X x1) 63) = 16 then (w_X6_fault N M2 0 (fun x188 M189 => (w_X7_fault N M189 252 (fun x190 M191 => (if x188 = x190 then (jL (jW (x1 + 7)) (fun x192 => (lp_L_law_18 X L N kx18 n x192 M191))) else False))))) else (if (jAnd (X x1) 63) = 17 then (jB (jW (x1 + 1)) L ∧ (w_X6_print N M2 0 (X (jW (x1 + 1))) (fun x194 M195 => (jB (jW (x1 + 1)) L ∧ (w_X7_print N M195 252 (X (jW (x1 + 1))) (fun x197 M198 => (if x194 = x197 then (jL (jW (x1 + 7)) (fun x199 => (lp_L_law_18 X L N kx18 n x199 M198))) else False))))))) else (if (jAnd (X x1) 63) = 18 then (jB (jW (x1 + 1)) L ∧ (w_X6_printed M2 0 (X (jW (x1 + 1))) (fun x201 => (jB (jW (x1 + 1)) L ∧ (w_X7_printed M2 252 (X (jW (x1 + 1))) (fun x203 => (if x201 = x203 then (jL (jW (x1 + 7)) (fun x204 => (lp_L_law_18 X L N kx18 n x204 M2))) else False))))))) else (if (jAnd (X x1) 63) = 19 then (w_X6_undo N M2 0 (fun x205 M206 => (w_X7_undo N M206 252 (fun x207 M208 => (if x205 = x207 then (jL (jW (x1 + 7)) (fun x209 => (lp_L_law_18 X L N kx18 n x209 M208))) else False))))) else (if (jAnd (X x1) 63) = 20 then (w_X6_records M2 0 (fun x210 => (w_X7_records M2 252 (fun x211 => (if x210 = x211 then (jL (jW (x1 + 7)) (fun x212 => (lp_L_law_18 X L N kx18 n x212 M2))) else False))))) else (if (jAnd (X x1) 63) = 21 then (jB (jW (x1 + 1)) L ∧ (w_X6_recordAt M2 0 (X (jW (x1 + 1))) (fun x214 => (jB (jW (x1 + 1)) L ∧ (w_X7_recordAt N M2 252 (X (jW (x1 + 1))) (fun x216 => (if x214 = x216 then (jL (jW (x1 + 7)) (fun x217 => (lp_L_law_18 X L N kx18 n x217 M2))) else False))))))) else (if (jAnd (X x1) 63) = 22 then (jB (jW (x1 + 1)) L ∧ (w_X6_locker N M2 0 (X (jW (x1 + 1))) (fun x219 => (jB (jW (x1 + 1)) L ∧ (w_X7_locker N M2 252 (X (jW (x1 + 1))) (fun x221 => (if x219 = x221 then (jL (jW (x1 + 7)) (fun x222 => (lp_L_law_18 X L N kx18 n x222 M2))) else False))))))) else (if (jAnd (X x1) 63) = 23 then (jB (jW (x1 + 1)) L ∧ (jB (jW (x1 + 2)) L ∧ (w_X6_values N M2 0 (X (jW (x1 + 1))) (X (jW (x1 + 2))) (fun x225 => (jB (jW (x1 + 1)) L ∧ (jB (jW (x1 + 2)) L ∧ (w_X7_values N M2 252 (X (jW (x1 + 1))) (X (jW (x1 + 2))) (fun x228 => (if x225 = x228 then (jL (jW (x1 + 7)) (fun x229 => (lp_L_law_18 X L N kx18 n x229 M2))) else False))))))))) else (if (jAnd (X x1) 63) = 24 then (jB (jW (x1 + 1)) L ∧ (jB (jW (x1 + 2)) L ∧ (jB (jW (x1 + 3)) L ∧ (w_X6_subvalues N M2 0 (X (jW (x1 + 1))) (X (jW (x1 + 2))) (X (jW (x1 + 3))) (fun x233 => (jB (jW (x1 + 1)) L ∧ (jB (jW (x1 + 2)) L ∧ (jB (jW (x1 + 3)) L ∧ (w_X7_subvalues N M2 252 (X (jW (x1 + 1))) (X (jW (x1 + 2))) (X (jW (x1 + 3))) (fun x237 => (if x233 = x237 then (jL (jW (x1 + 7)) (fun x238 => (lp_L_law_18 X L N kx18 n x238 M2))) else False))))))))))) else (if (jAnd (X x1) 63) = 25 then (jB (jW (x1 + 1)) L ∧ (jB (jW (x1 + 2)) L ∧ (jB (jW (x1 + 3)) L ∧ (jB (jW (x1 + 4)) L ∧ (w_X6_get N M2 0 (X (jW (x1 + 1))) (X (jW (x1 + 2))) (X (jW (x1 + 3))) (X (jW (x1 + 4))) (fun x243 => (jB (jW (x1 + 1)) L ∧ (jB (jW (x1 + 2)) L ∧ (jB (jW (x1 + 3)) L ∧ (jB (jW (x1 + 4)) L ∧ (w_X7_get N M2 252 (X (jW (x1 + 1))) (X (jW (x1 + 2))) (X (jW (x1 + 3))) (X (jW (x1 + 4))) (fun x248 => (if x243 = x248 then (jL (jW (x1 + 7)) (fun x249 => (lp_L_law_18 X L N kx18 n x249 M2))) else False))))))))))))) else (if (jAnd (X x1) 63) = 26 then (jB (jW (x1 + 1)) L ∧ (w_X6_lines N M2 0 (X (jW (x1 + 1))) (fun x251 => (jB (jW (x1 + 1)) L ∧ (w_X7_lines N M2 252 (X (jW (x1 + 1))) (fun x253 => (if x251 = x253 then (jL (jW (x1 + 7)) (fun x254 => (lp_L_law_18 X L N kx18 n x254 M2))) else False))))))) else (if (jAnd (X x1) 63) = 27 then (jB (jW (x1 + 1)) L ∧ (jB (jW (x1 + 2)) L ∧ (jB (jW (x1 + 3)) L ∧ (w_X6_locate N M2 0 (X (jW (x1 + 1))) (X (jW (x1 + 2))) (X (jW (x1 + 3))) (fun x258 => (jB (jW (x1 + 1)) L ∧ (jB (jW (x1 + 2)) L ∧ (jB (jW (x1 + 3)) L ∧ (w_X7_locate N M2 252 (X (jW (x1 + 1))) (X (jW (x1 + 2))) (X (jW (x1 + 3))) (fun x262 => (if x258 = x262 then (jL (jW (x1 + 7)) (fun x263 => (lp_L_law_18 X L N kx18 n x263 M2))) else False))))))))))) else (if (jAnd (X x1) 63) = 28 then (jB (jW (x1 + 1)) L ∧ (jB (jW (x1 + 2)) L ∧ (w_X6_column M2 0 (X (jW (x1 + 1))) (X (jW (x1 + 2))) (fun x266 => (jB (jW (x1 + 1)) L ∧ (jB (jW (x1 + 2)) L ∧ (w_X7_column M2 252 (X (jW (x1 + 1))) (X (jW (x1 + 2))) (fun x269 => (if x266 = x269 then (jL (jW (x1 + 7)) (fun x270 => (lp_L_law_18 X L N kx18 n x270 M2))) else False))))))))) else (if (jAnd (X x1) 63) = 29 then (jB (jW (x1 + 1)) L ∧ (w_X6_associated M2 0 (X (jW (x1 + 1))) (fun x272 => (jB (jW (x1 + 1)) L ∧ (w_X7_associated M2 252 (X (jW (x1 + 1))) (fun x274 => (if x272 = x274 then (jL (jW (x1 + 7)) (fun x275 => (lp_L_law_18 X L N kx18 n x275 M2))) else False))))))) else (if (jAnd (X x1) 63) = 30 then (jB (jW (x1 + 1)) L ∧ (w_X6_listSize N M2 0 (X (jW (x1 + 1))) (fun x277 => (jB (jW (x1 + 1)) L ∧ (w_X7_listSize N M2 252 (X (jW (x1 + 1))) (fun x279 => (if x277 = x279 then (jL (jW (x1 + 7)) (fun x280 => (lp_L_law_18 X L N kx18 n x280 M2))) else False))))))) else (if (jAnd (X x1) 63) = 31 then (jB (jW (x1 + 1)) L ∧ (jB (jW (x1 + 2)) L ∧ (w_X6_listAt N M2 0 (X (jW (x1 + 1))) (X (jW (x1 + 2))) (fun x283 => (jB (jW (x1 + 1)) L ∧ (jB (jW (x1 + 2)) L ∧ (w_X7_listAt N M2 252 (X (jW (x1 + 1))) (X (jW (x1 + 2))) (fun x286 => (if x283 = x286 then (jL (jW (x1 + 7)) (fun x287 => (lp_L_law_18 X L N kx18 n x287 M2))) else False))))))))) else (if (jAnd (X x1) 63) = 32 then (jB (jW (x1 + 1)) L ∧ (jB (jW (x1 + 2)) L ∧ (w_X6_numbers N M2 0 (X (jW (x1 + 1))) (X (jW (x1 + 2))) (fun x290 M291 => (jB (jW (x1 + 1)) L ∧ (jB (jW (x1 + 2)) L ∧ (w_X7_numbers N M291 252 (X (jW (x1 + 1))) (X (jW (x1 + 2))) (fun x294 M295 => (if x290 = x294 then (jL (jW (x1 + 7)) (fun x296 => (lp_L_law_18 X L N kx18 n x296 M295))) else False))))))))) else (if (jAnd (X x1) 63) = 33 then (jB (jW (x1 + 1)) L ∧ (jB (jW (x1 + 2)) L ∧ (jB (jW (x1 + 3)) L ∧ (w_X6_numberAt N M2 0 (X (jW (x1 + 1))) (X (jW (x1 + 2))) (X (jW (x1 + 3))) (fun x300 M301 => (jB (jW (x1 + 1)) L ∧ (jB (jW (x1 + 2)) L ∧ (jB (jW (x1 + 3)) L ∧ (w_X7_numberAt N M301 252 (X (jW (x1 + 1))) (X (jW (x1 + 2))) (X (jW (x1 + 3))) (fun x305 M306 => (if x300 = x305 then (jL (jW (x1 + 7)) (fun x307 => (lp_L_law_18 X L N kx18 n x307 M306))) else False))))))))))) else (if (jAnd (X x1) 63) = 34 then (jB (jW (x1 + 1)) L ∧ (w_X6_exploded N M2 0 (X (jW (x1 + 1))) (fun x309 M310 => (jB (jW (x1 + 1)) L ∧ (w_X7_exploded N M310 252 (X (jW (x1 + 1))) (fun x312 M313 => (if x309 = x312 then (jL (jW (x1 + 7)) (fun x314 => (lp_L_law_18 X L N kx18 n x314 M313))) else False))))))) else (if (jAnd (X x1) 63) = 35 then (jB (jW (x1 + 1)) L ∧ (jB (jW (x1 + 2)) L ∧ (jL (fun (x317 : Int) => (jB (jW (x1 + 3)) L ∧ (jB (jW (x1 + 4)) L ∧ (w_X6_explodedAt N M2 0 (X (jW (x1 + 1))) x317 (X (jW (x1 + 3))) (X (jW (x1 + 4))) (fun x321 M322 => (jB (jW (x1 + 1)) L ∧ (jB (jW (x1 + 2)) L ∧ (jL (fun (x325 : Int) => (jB (jW (x1 + 3)) L ∧ (jB (jW (x1 + 4)) L ∧ (w_X7_explodedAt N M322 252 (X (jW (x1 + 1))) x325 (X (jW (x1 + 3))) (X (jW (x1 + 4))) (fun x329 M330 => (if x321 = x329 then (jL (jW (x1 + 7)) (fun x331 => (lp_L_law_18 X L N kx18 n x331 M330))) else False)))))) (fun j1488_326 => (if (X (jW (x1 + 2))) = 0 then (j1488_326 0) else (j1488_326 1))))))))))) (fun j1456_318 => (if (X (jW (x1 + 2))) = 0 then (j1456_318 0) else (j1456_318 1)))))) else (if (jAnd (X x1) 63) = 36 then (jB (jW (x1 + 1)) L ∧ (jB (jW (x1 + 2)) L ∧ (w_X6_total N M2 0 (X (jW (x1 + 1))) (X (jW (x1 + 2))) (fun x334 M335 => (jB (jW (x1 + 1)) L ∧ (jB (jW (x1 + 2)) L ∧ (w_X7_total N M335 252 (X (jW (x1 + 1))) (X (jW (x1 + 2))) (fun x338 M339 => (if x334 = x338 then (jL (jW (x1 + 7)) (fun x340 => (lp_L_law_18 X L N kx18 n x340 M339))) else False))))))))) else (if (jAnd (X x1) 63) = 37 then (jB (jW (x1 + 1)) L ∧ (w_X6_mean N M2 0 (X (jW (x1 + 1))) (fun x342 M343 => (∀ f345 : UInt64, alike64 f345 (FP.f2d x342) = true → (jB (jW (x1 + 1)) L ∧ (w_X7_mean N M343 252 (X (jW (x1 + 1))) (fun x348 M349 => (∀ f351 : UInt64, alike64 f351 (FP.f2d x348) = true → (if (jCmp f345 f351) = 0 then (jL (jW (x1 + 7)) (fun x353 => (lp_L_law_18 X L N kx18 n x353 M349))) else (if (jCmp f345 f345) = 0 then False else (if (jCmp f351 f351) = 0 then False else (jL (jW (x1 + 7)) (fun x354 => (lp_L_law_18 X L N kx18 n x354 M349)))))))))))))) else (if (jAnd (X x1) 63) = 38 then (jB (jW (x1 + 1)) L ∧ (w_X6_repeated N M2 0 (X (jW (x1 + 1))) (fun x356 M357 => (jB (jW (x1 + 1)) L ∧ (w_X7_repeated N M357 252 (X (jW (x1 + 1))) (fun x359 M360 => (if x356 = x359 then (jL (jW (x1 + 7)) (fun x361 => (lp_L_law_18 X L N kx18 n x361 M360))) else False))))))) else (jL (jW (x1 + 7)) (fun x362 => (lp_L_law_18 X L N kx18 n x362 M2))))))))))))))))))))))))))))))))))))))))))) else (kx18 M2))
def w_L_law (X : Int → Int) (L : Int) (N : Nat) (M : jM) : Prop := (lp_L_law_18 X L N (fun (M3 : jM) => True) N 0 M)
set_option maxHeartbeats 40000000 in
set_option maxRecDepth 100000 in
theorem law_walk {p : Program} {l : Launch} {e : Env} {s : State} {m : MethodId} {below : List Frame} {meth : Method} {c : Code} {H : Heap} {locs : List Loc} {ls : Array Slot} {b : Nat} {G : jG} {N : Nat} {M : jM} {L : Int} {Ln : Nat} {xs : Nat → Int32} {X : Int → Int} (hLn : L = (Ln : Int)) (hXs : ∀ j : Nat, X (j : Int) = (xs j).toInt) (r_X : ∀ i, jR (X i)) (r_L : jR L) (hX : va_X b Ln xs s s.heap) (hbl : b < s.heap.size) (hGb : s.heap.size ≤ G.2.2) (C0 : ∀ d : Drawn, Cx G p (s.setDrawn d) #[Value.ref b] m c cL_law 8 RL) (hr : meth.sig.returnType = ret) (hlocks : meth.locks = false) (B : Hp G M s.heap H locs) (hl : lv_has ls 8 [(2, .ref (jD G 252)), (1, .ref (jD G 0)), (0, .ref b)]) (h : w_L_law X L N M) {d0 : Drawn} (hd : s.drawn.sameBut d0 lw_cs) : W p l e room_1 (s.setDrawn d0) m #[Value.ref b] below meth c H locs 262 18807 (lw_Z below #[Value.ref b] s) (F0 m 16 ls []) := by
  have C := C0 d0
  have o_M := B.2.2
  have k_X : jK 0 = 7 := by decide
  have k_Y : jK 252 = 8 := by decide
  have hbA : ¬ gA G b := fun q => by have := q.1; omega
  unfold w_L_law at h
  refine jr_iconst C dL_law_16 ?_
  refine lv_istore_n (lv' := [(3, .int (jI 0)), (2, .ref (jD G 252)), (1, .ref (jD G 0)), (0, .ref b)]) C.1 C.2.1 dL_law_17 rfl hl (by decide) rfl (fun ls hl => ?_)
  obtain ⟨kx18, hkx18, h⟩ : ∃ kx18 : jM → Prop, (∀ (M3 : jM) (H : Heap) (locs : List Loc) (ls : Array Slot), ∀ (d0 : Drawn), s.drawn.sameBut d0 lw_cs → kx18 M3 → Hp G M3 s.heap H locs → lv_has ls 8 [] → W p l e room_1 (s.setDrawn d0) m #[Value.ref b] below meth c H locs 262 18807 (lw_Z below #[Value.ref b] s) (F0 m 1629 ls [])) ∧ lp_L_law_18 X L N kx18 N 0 M := by
    refine ⟨_, ?_, h⟩
    intro M3 H locs ls d0 hd h  B hl
    have C := C0 d0
    have o_M3 := B.2.2
    refine jr_iconst C dL_law_1629 ?_
    exact jl_end hd hGb C B hr hlocks dL_law_1630
  have hL18 : ∀ (n : Nat) (x1 : Int) (M2 : jM) (H : Heap) (locs : List Loc) (ls : Array Slot), ∀ (d0 : Drawn), s.drawn.sameBut d0 lw_cs → lp_L_law_18 X L N kx18 n x1 M2 → jR x1 → Hp G M2 s.heap H locs → lv_has ls 8 [(3, .int (jI x1)), (2, .ref (jD G 252)), (1, .ref (jD G 0)), (0, .ref b)] → W p l e room_1 (s.setDrawn d0) m #[Value.ref b] below meth c H locs 262 18807 (lw_Z below #[Value.ref b] s) (F0 m 18 ls []) := by
    intro n
    induction n with
    | zero => intro x1 M2 H locs ls d0 hd h; exact (show False from h).elim
    | succ n ih18 =>
      intro x1 M2 H locs ls d0 hd h r_x1 B hl
      have C := C0 d0
      have o_M2 := B.2.2
      rw [lp_L_law_18] at h
      refine lv_iload_n C.1 C.2.1 dL_law_18 rfl (lv_at hl 0 rfl) ?_
      refine lv_aload_n C.1 C.2.1 dL_law_19 rfl (lv_at hl 3 rfl) ?_
      refine jr_slen (X := X) C ⟨hX, rfl, hLn, hXs⟩ hbl hbA B dL_law_20 ?_
      refine jr_bipush C dL_law_21 (by decide) ?_
      refine jr_isub C dL_law_23 ?_
      refine jr_icmp_gt (tgt := 1629) C r_x1 (jW_R _) h dL_law_24 (by decide) (fun hc24 h => ?_) (fun hc24 h => ?_)
      · refine lv_aload_n C.1 C.2.1 dL_law_27 rfl (lv_at hl 3 rfl) ?_
        refine lv_iload_n C.1 C.2.1 dL_law_28 rfl (lv_at hl 0 rfl) ?_
        obtain ⟨g4, h⟩ := h
        refine jr_sld C ⟨hX, rfl, hLn, hXs⟩ hbl hbA B r_x1 g4 dL_law_29 ?_
        refine jr_bipush C dL_law_30 (by decide) ?_
        refine jr_iand C dL_law_32 ?_
        by_cases hs33_0 : (jAnd (X x1) 63) = 0
        · rw [if_pos hs33_0] at h
          refine jr_tableIn (v := 0) (off := 171) (tgt := 204) C (jAnd_R _ _) hs33_0 (by decide) (by decide) (by decide) dL_law_33 (by decide) ?_
          refine lv_aload_n C.1 C.2.1 dL_law_204 rfl (lv_at hl 2 rfl) ?_
          refine lv_aload_n C.1 C.2.1 dL_law_205 rfl (lv_at hl 3 rfl) ?_
          refine lv_iload_n C.1 C.2.1 dL_law_206 rfl (lv_at hl 0 rfl) ?_
          refine jr_iconst C dL_law_207 ?_
          refine jr_iadd C dL_law_208 ?_
          obtain ⟨g5, h⟩ := h
          refine jr_sld C ⟨hX, rfl, hLn, hXs⟩ hbl hbA B (jW_R _) g5 dL_law_209 ?_
          refine cl_X6_create C hl.1 B q_196 ⟨Nat.le_of_ble_eq_true rfl, Nat.le_of_ble_eq_true rfl⟩ ⟨Nat.le_of_ble_eq_true rfl, Nat.le_of_ble_eq_true rfl⟩ (Nat.le_of_ble_eq_true rfl) k_X (r_X (jW (x1 + 1))) h dL_law_210 (fun x6 M7 r_x6 _ _ h B => ?_)
          have o_M7 := B.2.2
          refine lv_aload_n C.1 C.2.1 dL_law_213 rfl (lv_at hl 1 rfl) ?_
          refine lv_aload_n C.1 C.2.1 dL_law_214 rfl (lv_at hl 3 rfl) ?_
          refine lv_iload_n C.1 C.2.1 dL_law_215 rfl (lv_at hl 0 rfl) ?_
          refine jr_iconst C dL_law_216 ?_
          refine jr_iadd C dL_law_217 ?_
          obtain ⟨g8, h⟩ := h
          refine jr_sld C ⟨hX, rfl, hLn, hXs⟩ hbl hbA B (jW_R _) g8 dL_law_218 ?_
          refine cl_X7_create C hl.1 B q_730 ⟨Nat.le_of_ble_eq_true rfl, Nat.le_of_ble_eq_true rfl⟩ ⟨Nat.le_of_ble_eq_true rfl, Nat.le_of_ble_eq_true rfl⟩ (Nat.le_of_ble_eq_true rfl) k_Y (r_X (jW (x1 + 1))) h dL_law_219 (fun x9 M10 r_x9 _ _ h B => ?_)
          have o_M10 := B.2.2
          refine jr_icmp_eq (tgt := 1623) C r_x6 r_x9 h dL_law_222 (by decide) (fun hc222 h => ?_) (fun hc222 h => ?_)
          · refine jr_iinc (k := 0) (lv' := fun x11 => [(3, .int (jI x11)), (2, .ref (jD G 252)), (1, .ref (jD G 0)), (0, .ref b)]) C h hl rfl (by decide) (fun _ => rfl) dL_law_1623 (fun x11 h r_x11 ls hl => ?_)
            refine lv_goto (tgt := 18) C.1 C.2.1 dL_law_1626 (by decide) ?_
            exact ih18 _ _ _ _ _ _ hd h r_x11 B (lv_sub hl [0, 1, 2, 3] rfl)
          · refine jr_iconst C dL_law_225 ?_
            exact h.elim
        · rw [if_neg hs33_0] at h
          by_cases hs33_1 : (jAnd (X x1) 63) = 1
          · rw [if_pos hs33_1] at h
            refine jr_tableIn (v := 1) (off := 194) (tgt := 227) C (jAnd_R _ _) hs33_1 (by decide) (by decide) (by decide) dL_law_33 (by decide) ?_
            refine lv_aload_n C.1 C.2.1 dL_law_227 rfl (lv_at hl 2 rfl) ?_
            refine lv_aload_n C.1 C.2.1 dL_law_228 rfl (lv_at hl 3 rfl) ?_
            refine lv_iload_n C.1 C.2.1 dL_law_229 rfl (lv_at hl 0 rfl) ?_
            refine jr_iconst C dL_law_230 ?_
            refine jr_iadd C dL_law_231 ?_
            obtain ⟨g12, h⟩ := h
            refine jr_sld C ⟨hX, rfl, hLn, hXs⟩ hbl hbA B (jW_R _) g12 dL_law_232 ?_
            refine lv_aload_n C.1 C.2.1 dL_law_233 rfl (lv_at hl 3 rfl) ?_
            refine lv_iload_n C.1 C.2.1 dL_law_234 rfl (lv_at hl 0 rfl) ?_
            refine jr_iconst C dL_law_235 ?_
            refine jr_iadd C dL_law_236 ?_
            obtain ⟨g13, h⟩ := h
            refine jr_sld C ⟨hX, rfl, hLn, hXs⟩ hbl hbA B (jW_R _) g13 dL_law_237 ?_
            refine cl_X6_delete C hl.1 B q_246 ⟨Nat.le_of_ble_eq_true rfl, Nat.le_of_ble_eq_true rfl⟩ ⟨Nat.le_of_ble_eq_true rfl, Nat.le_of_ble_eq_true rfl⟩ (Nat.le_of_ble_eq_true rfl) k_X (r_X (jW (x1 + 1))) (r_X (jW (x1 + 2))) h dL_law_238 (fun x14 M15 r_x14 _ _ h B => ?_)
            have o_M15 := B.2.2
            refine lv_aload_n C.1 C.2.1 dL_law_241 rfl (lv_at hl 1 rfl) ?_
            refine lv_aload_n C.1 C.2.1 dL_law_242 rfl (lv_at hl 3 rfl) ?_
            refine lv_iload_n C.1 C.2.1 dL_law_243 rfl (lv_at hl 0 rfl) ?_
            refine jr_iconst C dL_law_244 ?_
            refine jr_iadd C dL_law_245 ?_
            obtain ⟨g16, h⟩ := h
            refine jr_sld C ⟨hX, rfl, hLn, hXs⟩ hbl hbA B (jW_R _) g16 dL_law_246 ?_
            refine lv_aload_n C.1 C.2.1 dL_law_247 rfl (lv_at hl 3 rfl) ?_
            refine lv_iload_n C.1 C.2.1 dL_law_248 rfl (lv_at hl 0 rfl) ?_
            refine jr_iconst C dL_law_249 ?_
            refine jr_iadd C dL_law_250 ?_
            obtain ⟨g17, h⟩ := h
            refine jr_sld C ⟨hX, rfl, hLn, hXs⟩ hbl hbA B (jW_R _) g17 dL_law_251 ?_
            refine cl_X7_delete C hl.1 B q_768 ⟨Nat.le_of_ble_eq_true rfl, Nat.le_of_ble_eq_true rfl⟩ ⟨Nat.le_of_ble_eq_true rfl, Nat.le_of_ble_eq_true rfl⟩ (Nat.le_of_ble_eq_true rfl) k_Y (r_X (jW (x1 + 1))) (r_X (jW (x1 + 2))) h dL_law_252 (fun x18 M19 r_x18 _ _ h B => ?_)
            have o_M19 := B.2.2
            refine jr_icmp_eq (tgt := 1623) C r_x14 r_x18 h dL_law_255 (by decide) (fun hc255 h => ?_) (fun hc255 h => ?_)
            · refine jr_iinc (k := 0) (lv' := fun x20 => [(3, .int (jI x20)), (2, .ref (jD G 252)), (1, .ref (jD G 0)), (0, .ref b)]) C h hl rfl (by decide) (fun _ => rfl) dL_law_1623 (fun x20 h r_x20 ls hl => ?_)
              refine lv_goto (tgt := 18) C.1 C.2.1 dL_law_1626 (by decide) ?_
              exact ih18 _ _ _ _ _ _ hd h r_x20 B (lv_sub hl [0, 1, 2, 3] rfl)
            · refine jr_iconst C dL_law_258 ?_
              exact h.elim
          · rw [if_neg hs33_1] at h
            by_cases hs33_2 : (jAnd (X x1) 63) = 2
            · rw [if_pos hs33_2] at h
              refine jr_tableIn (v := 2) (off := 227) (tgt := 260) C (jAnd_R _ _) hs33_2 (by decide) (by decide) (by decide) dL_law_33 (by decide) ?_
              refine lv_aload_n C.1 C.2.1 dL_law_260 rfl (lv_at hl 2 rfl) ?_
              refine lv_aload_n C.1 C.2.1 dL_law_261 rfl (lv_at hl 3 rfl) ?_
              refine lv_iload_n C.1 C.2.1 dL_law_262 rfl (lv_at hl 0 rfl) ?_
              refine jr_iconst C dL_law_263 ?_
              refine jr_iadd C dL_law_264 ?_
              obtain ⟨g21, h⟩ := h
              refine jr_sld C ⟨hX, rfl, hLn, hXs⟩ hbl hbA B (jW_R _) g21 dL_law_265 ?_
              refine lv_aload_n C.1 C.2.1 dL_law_266 rfl (lv_at hl 3 rfl) ?_
              refine lv_iload_n C.1 C.2.1 dL_law_267 rfl (lv_at hl 0 rfl) ?_
              refine jr_iconst C dL_law_268 ?_
              refine jr_iadd C dL_law_269 ?_
              obtain ⟨g22, h⟩ := h
              refine jr_sld C ⟨hX, rfl, hLn, hXs⟩ hbl hbA B (jW_R _) g22 dL_law_270 ?_
              refine cl_X6_lock C hl.1 B q_260 ⟨Nat.le_of_ble_eq_true rfl, Nat.le_of_ble_eq_true rfl⟩ ⟨Nat.le_of_ble_eq_true rfl, Nat.le_of_ble_eq_true rfl⟩ (Nat.le_of_ble_eq_true rfl) k_X (r_X (jW (x1 + 1))) (r_X (jW (x1 + 2))) h dL_law_271 (fun x23 M24 r_x23 _ _ h B => ?_)
              have o_M24 := B.2.2
              refine lv_aload_n C.1 C.2.1 dL_law_274 rfl (lv_at hl 1 rfl) ?_
              refine lv_aload_n C.1 C.2.1 dL_law_275 rfl (lv_at hl 3 rfl) ?_
              refine lv_iload_n C.1 C.2.1 dL_law_276 rfl (lv_at hl 0 rfl) ?_
              refine jr_iconst C dL_law_277 ?_
              refine jr_iadd C dL_law_278 ?_
              obtain ⟨g25, h⟩ := h
              refine jr_sld C ⟨hX, rfl, hLn, hXs⟩ hbl hbA B (jW_R _) g25 dL_law_279 ?_
              refine lv_aload_n C.1 C.2.1 dL_law_280 rfl (lv_at hl 3 rfl) ?_
              refine lv_iload_n C.1 C.2.1 dL_law_281 rfl (lv_at hl 0 rfl) ?_
              refine jr_iconst C dL_law_282 ?_
              refine jr_iadd C dL_law_283 ?_
              obtain ⟨g26, h⟩ := h
              refine jr_sld C ⟨hX, rfl, hLn, hXs⟩ hbl hbA B (jW_R _) g26 dL_law_284 ?_
              refine cl_X7_lock C hl.1 B q_788 ⟨Nat.le_of_ble_eq_true rfl, Nat.le_of_ble_eq_true rfl⟩ ⟨Nat.le_of_ble_eq_true rfl, Nat.le_of_ble_eq_true rfl⟩ (Nat.le_of_ble_eq_true rfl) k_Y (r_X (jW (x1 + 1))) (r_X (jW (x1 + 2))) h dL_law_285 (fun x27 M28 r_x27 _ _ h B => ?_)
              have o_M28 := B.2.2
              refine jr_icmp_eq (tgt := 1623) C r_x23 r_x27 h dL_law_288 (by decide) (fun hc288 h => ?_) (fun hc288 h => ?_)
              · refine jr_iinc (k := 0) (lv' := fun x29 => [(3, .int (jI x29)), (2, .ref (jD G 252)), (1, .ref (jD G 0)), (0, .ref b)]) C h hl rfl (by decide) (fun _ => rfl) dL_law_1623 (fun x29 h r_x29 ls hl => ?_)
                refine lv_goto (tgt := 18) C.1 C.2.1 dL_law_1626 (by decide) ?_
                exact ih18 _ _ _ _ _ _ hd h r_x29 B (lv_sub hl [0, 1, 2, 3] rfl)
              · refine jr_iconst C dL_law_291 ?_
                exact h.elim
            · rw [if_neg hs33_2] at h
              by_cases hs33_3 : (jAnd (X x1) 63) = 3
              · rw [if_pos hs33_3] at h
                refine jr_tableIn (v := 3) (off := 260) (tgt := 293) C (jAnd_R _ _) hs33_3 (by decide) (by decide) (by decide) dL_law_33 (by decide) ?_
                refine lv_aload_n C.1 C.2.1 dL_law_293 rfl (lv_at hl 2 rfl) ?_
                refine lv_aload_n C.1 C.2.1 dL_law_294 rfl (lv_at hl 3 rfl) ?_
                refine lv_iload_n C.1 C.2.1 dL_law_295 rfl (lv_at hl 0 rfl) ?_
                refine jr_iconst C dL_law_296 ?_
                refine jr_iadd C dL_law_297 ?_
                obtain ⟨g30, h⟩ := h
                refine jr_sld C ⟨hX, rfl, hLn, hXs⟩ hbl hbA B (jW_R _) g30 dL_law_298 ?_
                refine lv_aload_n C.1 C.2.1 dL_law_299 rfl (lv_at hl 3 rfl) ?_
                refine lv_iload_n C.1 C.2.1 dL_law_300 rfl (lv_at hl 0 rfl) ?_
                refine jr_iconst C dL_law_301 ?_
                refine jr_iadd C dL_law_302 ?_
                obtain ⟨g31, h⟩ := h
                refine jr_sld C ⟨hX, rfl, hLn, hXs⟩ hbl hbA B (jW_R _) g31 dL_law_303 ?_
                refine cl_X6_unlock C hl.1 B q_268 ⟨Nat.le_of_ble_eq_true rfl, Nat.le_of_ble_eq_true rfl⟩ ⟨Nat.le_of_ble_eq_true rfl, Nat.le_of_ble_eq_true rfl⟩ (Nat.le_of_ble_eq_true rfl) k_X (r_X (jW (x1 + 1))) (r_X (jW (x1 + 2))) h dL_law_304 (fun x32 M33 r_x32 _ _ h B => ?_)
                have o_M33 := B.2.2
                refine lv_aload_n C.1 C.2.1 dL_law_307 rfl (lv_at hl 1 rfl) ?_
                refine lv_aload_n C.1 C.2.1 dL_law_308 rfl (lv_at hl 3 rfl) ?_
                refine lv_iload_n C.1 C.2.1 dL_law_309 rfl (lv_at hl 0 rfl) ?_
                refine jr_iconst C dL_law_310 ?_
                refine jr_iadd C dL_law_311 ?_
                obtain ⟨g34, h⟩ := h
                refine jr_sld C ⟨hX, rfl, hLn, hXs⟩ hbl hbA B (jW_R _) g34 dL_law_312 ?_
                refine lv_aload_n C.1 C.2.1 dL_law_313 rfl (lv_at hl 3 rfl) ?_
                refine lv_iload_n C.1 C.2.1 dL_law_314 rfl (lv_at hl 0 rfl) ?_
                refine jr_iconst C dL_law_315 ?_
                refine jr_iadd C dL_law_316 ?_
                obtain ⟨g35, h⟩ := h
                refine jr_sld C ⟨hX, rfl, hLn, hXs⟩ hbl hbA B (jW_R _) g35 dL_law_317 ?_
                refine cl_X7_unlock C hl.1 B q_800 ⟨Nat.le_of_ble_eq_true rfl, Nat.le_of_ble_eq_true rfl⟩ ⟨Nat.le_of_ble_eq_true rfl, Nat.le_of_ble_eq_true rfl⟩ (Nat.le_of_ble_eq_true rfl) k_Y (r_X (jW (x1 + 1))) (r_X (jW (x1 + 2))) h dL_law_318 (fun x36 M37 r_x36 _ _ h B => ?_)
                have o_M37 := B.2.2
                refine jr_icmp_eq (tgt := 1623) C r_x32 r_x36 h dL_law_321 (by decide) (fun hc321 h => ?_) (fun hc321 h => ?_)
                · refine jr_iinc (k := 0) (lv' := fun x38 => [(3, .int (jI x38)), (2, .ref (jD G 252)), (1, .ref (jD G 0)), (0, .ref b)]) C h hl rfl (by decide) (fun _ => rfl) dL_law_1623 (fun x38 h r_x38 ls hl => ?_)
                  refine lv_goto (tgt := 18) C.1 C.2.1 dL_law_1626 (by decide) ?_
                  exact ih18 _ _ _ _ _ _ hd h r_x38 B (lv_sub hl [0, 1, 2, 3] rfl)
                · refine jr_iconst C dL_law_324 ?_
                  exact h.elim
              · rw [if_neg hs33_3] at h
                by_cases hs33_4 : (jAnd (X x1) 63) = 4
                · rw [if_pos hs33_4] at h
                  refine jr_tableIn (v := 4) (off := 293) (tgt := 326) C (jAnd_R _ _) hs33_4 (by decide) (by decide) (by decide) dL_law_33 (by decide) ?_
                  refine lv_aload_n C.1 C.2.1 dL_law_326 rfl (lv_at hl 2 rfl) ?_
                  refine lv_aload_n C.1 C.2.1 dL_law_327 rfl (lv_at hl 3 rfl) ?_
                  refine lv_iload_n C.1 C.2.1 dL_law_328 rfl (lv_at hl 0 rfl) ?_
                  refine jr_iconst C dL_law_329 ?_
                  refine jr_iadd C dL_law_330 ?_
                  obtain ⟨g39, h⟩ := h
                  refine jr_sld C ⟨hX, rfl, hLn, hXs⟩ hbl hbA B (jW_R _) g39 dL_law_331 ?_
                  refine lv_aload_n C.1 C.2.1 dL_law_332 rfl (lv_at hl 3 rfl) ?_
                  refine lv_iload_n C.1 C.2.1 dL_law_333 rfl (lv_at hl 0 rfl) ?_
                  refine jr_iconst C dL_law_334 ?_
                  refine jr_iadd C dL_law_335 ?_
                  obtain ⟨g40, h⟩ := h
                  refine jr_sld C ⟨hX, rfl, hLn, hXs⟩ hbl hbA B (jW_R _) g40 dL_law_336 ?_
                  refine lv_aload_n C.1 C.2.1 dL_law_337 rfl (lv_at hl 3 rfl) ?_
                  refine lv_iload_n C.1 C.2.1 dL_law_338 rfl (lv_at hl 0 rfl) ?_
                  refine jr_iconst C dL_law_339 ?_
                  refine jr_iadd C dL_law_340 ?_
                  obtain ⟨g41, h⟩ := h
                  refine jr_sld C ⟨hX, rfl, hLn, hXs⟩ hbl hbA B (jW_R _) g41 dL_law_341 ?_
                  refine lv_aload_n C.1 C.2.1 dL_law_342 rfl (lv_at hl 3 rfl) ?_
                  refine lv_iload_n C.1 C.2.1 dL_law_343 rfl (lv_at hl 0 rfl) ?_
                  refine jr_iconst C dL_law_344 ?_
                  refine jr_iadd C dL_law_345 ?_
                  obtain ⟨g42, h⟩ := h
                  refine jr_sld C ⟨hX, rfl, hLn, hXs⟩ hbl hbA B (jW_R _) g42 dL_law_346 ?_
                  refine lv_aload_n C.1 C.2.1 dL_law_347 rfl (lv_at hl 3 rfl) ?_
                  refine lv_iload_n C.1 C.2.1 dL_law_348 rfl (lv_at hl 0 rfl) ?_
                  refine jr_iconst C dL_law_349 ?_
                  refine jr_iadd C dL_law_350 ?_
                  obtain ⟨g43, h⟩ := h
                  refine jr_sld C ⟨hX, rfl, hLn, hXs⟩ hbl hbA B (jW_R _) g43 dL_law_351 ?_
                  refine lv_aload_n C.1 C.2.1 dL_law_352 rfl (lv_at hl 3 rfl) ?_
                  refine lv_iload_n C.1 C.2.1 dL_law_353 rfl (lv_at hl 0 rfl) ?_
                  refine jr_bipush C dL_law_354 (by decide) ?_
                  refine jr_iadd C dL_law_356 ?_
                  obtain ⟨g44, h⟩ := h
                  refine jr_sld C ⟨hX, rfl, hLn, hXs⟩ hbl hbA B (jW_R _) g44 dL_law_357 ?_
                  refine cl_X6_insert C hl.1 B q_273 ⟨Nat.le_of_ble_eq_true rfl, Nat.le_of_ble_eq_true rfl⟩ ⟨Nat.le_of_ble_eq_true rfl, Nat.le_of_ble_eq_true rfl⟩ (Nat.le_of_ble_eq_true rfl) k_X (r_X (jW (x1 + 1))) (r_X (jW (x1 + 2))) (r_X (jW (x1 + 3))) (r_X (jW (x1 + 4))) (r_X (jW (x1 + 5))) (r_X (jW (x1 + 6))) h dL_law_358 (fun x45 M46 r_x45 _ _ h B => ?_)
                  have o_M46 := B.2.2
                  refine lv_aload_n C.1 C.2.1 dL_law_361 rfl (lv_at hl 1 rfl) ?_
                  refine lv_aload_n C.1 C.2.1 dL_law_362 rfl (lv_at hl 3 rfl) ?_
                  refine lv_iload_n C.1 C.2.1 dL_law_363 rfl (lv_at hl 0 rfl) ?_
                  refine jr_iconst C dL_law_364 ?_
                  refine jr_iadd C dL_law_365 ?_
                  obtain ⟨g47, h⟩ := h
                  refine jr_sld C ⟨hX, rfl, hLn, hXs⟩ hbl hbA B (jW_R _) g47 dL_law_366 ?_
                  refine lv_aload_n C.1 C.2.1 dL_law_367 rfl (lv_at hl 3 rfl) ?_
                  refine lv_iload_n C.1 C.2.1 dL_law_368 rfl (lv_at hl 0 rfl) ?_
                  refine jr_iconst C dL_law_369 ?_
                  refine jr_iadd C dL_law_370 ?_
                  obtain ⟨g48, h⟩ := h
                  refine jr_sld C ⟨hX, rfl, hLn, hXs⟩ hbl hbA B (jW_R _) g48 dL_law_371 ?_
                  refine lv_aload_n C.1 C.2.1 dL_law_372 rfl (lv_at hl 3 rfl) ?_
                  refine lv_iload_n C.1 C.2.1 dL_law_373 rfl (lv_at hl 0 rfl) ?_
                  refine jr_iconst C dL_law_374 ?_
                  refine jr_iadd C dL_law_375 ?_
                  obtain ⟨g49, h⟩ := h
                  refine jr_sld C ⟨hX, rfl, hLn, hXs⟩ hbl hbA B (jW_R _) g49 dL_law_376 ?_
                  refine lv_aload_n C.1 C.2.1 dL_law_377 rfl (lv_at hl 3 rfl) ?_
                  refine lv_iload_n C.1 C.2.1 dL_law_378 rfl (lv_at hl 0 rfl) ?_
                  refine jr_iconst C dL_law_379 ?_
                  refine jr_iadd C dL_law_380 ?_
                  obtain ⟨g50, h⟩ := h
                  refine jr_sld C ⟨hX, rfl, hLn, hXs⟩ hbl hbA B (jW_R _) g50 dL_law_381 ?_
                  refine lv_aload_n C.1 C.2.1 dL_law_382 rfl (lv_at hl 3 rfl) ?_
                  refine lv_iload_n C.1 C.2.1 dL_law_383 rfl (lv_at hl 0 rfl) ?_
                  refine jr_iconst C dL_law_384 ?_
                  refine jr_iadd C dL_law_385 ?_
                  obtain ⟨g51, h⟩ := h
                  refine jr_sld C ⟨hX, rfl, hLn, hXs⟩ hbl hbA B (jW_R _) g51 dL_law_386 ?_
                  refine lv_aload_n C.1 C.2.1 dL_law_387 rfl (lv_at hl 3 rfl) ?_
                  refine lv_iload_n C.1 C.2.1 dL_law_388 rfl (lv_at hl 0 rfl) ?_
                  refine jr_bipush C dL_law_389 (by decide) ?_
                  refine jr_iadd C dL_law_391 ?_
                  obtain ⟨g52, h⟩ := h
                  refine jr_sld C ⟨hX, rfl, hLn, hXs⟩ hbl hbA B (jW_R _) g52 dL_law_392 ?_
                  refine cl_X7_insert C hl.1 B q_808 ⟨Nat.le_of_ble_eq_true rfl, Nat.le_of_ble_eq_true rfl⟩ ⟨Nat.le_of_ble_eq_true rfl, Nat.le_of_ble_eq_true rfl⟩ (Nat.le_of_ble_eq_true rfl) k_Y (r_X (jW (x1 + 1))) (r_X (jW (x1 + 2))) (r_X (jW (x1 + 3))) (r_X (jW (x1 + 4))) (r_X (jW (x1 + 5))) (r_X (jW (x1 + 6))) h dL_law_393 (fun x53 M54 r_x53 _ _ h B => ?_)
                  have o_M54 := B.2.2
                  refine jr_icmp_eq (tgt := 1623) C r_x45 r_x53 h dL_law_396 (by decide) (fun hc396 h => ?_) (fun hc396 h => ?_)
                  · refine jr_iinc (k := 0) (lv' := fun x55 => [(3, .int (jI x55)), (2, .ref (jD G 252)), (1, .ref (jD G 0)), (0, .ref b)]) C h hl rfl (by decide) (fun _ => rfl) dL_law_1623 (fun x55 h r_x55 ls hl => ?_)
                    refine lv_goto (tgt := 18) C.1 C.2.1 dL_law_1626 (by decide) ?_
                    exact ih18 _ _ _ _ _ _ hd h r_x55 B (lv_sub hl [0, 1, 2, 3] rfl)
                  · refine jr_iconst C dL_law_399 ?_
                    exact h.elim
                · rw [if_neg hs33_4] at h
                  by_cases hs33_5 : (jAnd (X x1) 63) = 5
                  · rw [if_pos hs33_5] at h
                    refine jr_tableIn (v := 5) (off := 368) (tgt := 401) C (jAnd_R _ _) hs33_5 (by decide) (by decide) (by decide) dL_law_33 (by decide) ?_
                    refine lv_aload_n C.1 C.2.1 dL_law_401 rfl (lv_at hl 2 rfl) ?_
                    refine lv_aload_n C.1 C.2.1 dL_law_402 rfl (lv_at hl 3 rfl) ?_
                    refine lv_iload_n C.1 C.2.1 dL_law_403 rfl (lv_at hl 0 rfl) ?_
                    refine jr_iconst C dL_law_404 ?_
                    refine jr_iadd C dL_law_405 ?_
                    obtain ⟨g56, h⟩ := h
                    refine jr_sld C ⟨hX, rfl, hLn, hXs⟩ hbl hbA B (jW_R _) g56 dL_law_406 ?_
                    refine lv_aload_n C.1 C.2.1 dL_law_407 rfl (lv_at hl 3 rfl) ?_
                    refine lv_iload_n C.1 C.2.1 dL_law_408 rfl (lv_at hl 0 rfl) ?_
                    refine jr_iconst C dL_law_409 ?_
                    refine jr_iadd C dL_law_410 ?_
                    obtain ⟨g57, h⟩ := h
                    refine jr_sld C ⟨hX, rfl, hLn, hXs⟩ hbl hbA B (jW_R _) g57 dL_law_411 ?_
                    refine lv_aload_n C.1 C.2.1 dL_law_412 rfl (lv_at hl 3 rfl) ?_
                    refine lv_iload_n C.1 C.2.1 dL_law_413 rfl (lv_at hl 0 rfl) ?_
                    refine jr_iconst C dL_law_414 ?_
                    refine jr_iadd C dL_law_415 ?_
                    obtain ⟨g58, h⟩ := h
                    refine jr_sld C ⟨hX, rfl, hLn, hXs⟩ hbl hbA B (jW_R _) g58 dL_law_416 ?_
                    refine lv_aload_n C.1 C.2.1 dL_law_417 rfl (lv_at hl 3 rfl) ?_
                    refine lv_iload_n C.1 C.2.1 dL_law_418 rfl (lv_at hl 0 rfl) ?_
                    refine jr_iconst C dL_law_419 ?_
                    refine jr_iadd C dL_law_420 ?_
                    obtain ⟨g59, h⟩ := h
                    refine jr_sld C ⟨hX, rfl, hLn, hXs⟩ hbl hbA B (jW_R _) g59 dL_law_421 ?_
                    refine lv_aload_n C.1 C.2.1 dL_law_422 rfl (lv_at hl 3 rfl) ?_
                    refine lv_iload_n C.1 C.2.1 dL_law_423 rfl (lv_at hl 0 rfl) ?_
                    refine jr_iconst C dL_law_424 ?_
                    refine jr_iadd C dL_law_425 ?_
                    obtain ⟨g60, h⟩ := h
                    refine jr_sld C ⟨hX, rfl, hLn, hXs⟩ hbl hbA B (jW_R _) g60 dL_law_426 ?_
                    refine lv_aload_n C.1 C.2.1 dL_law_427 rfl (lv_at hl 3 rfl) ?_
                    refine lv_iload_n C.1 C.2.1 dL_law_428 rfl (lv_at hl 0 rfl) ?_
                    refine jr_bipush C dL_law_429 (by decide) ?_
                    refine jr_iadd C dL_law_431 ?_
                    obtain ⟨g61, h⟩ := h
                    refine jr_sld C ⟨hX, rfl, hLn, hXs⟩ hbl hbA B (jW_R _) g61 dL_law_432 ?_
                    refine cl_X6_change C hl.1 B q_326 ⟨Nat.le_of_ble_eq_true rfl, Nat.le_of_ble_eq_true rfl⟩ ⟨Nat.le_of_ble_eq_true rfl, Nat.le_of_ble_eq_true rfl⟩ (Nat.le_of_ble_eq_true rfl) k_X (r_X (jW (x1 + 1))) (r_X (jW (x1 + 2))) (r_X (jW (x1 + 3))) (r_X (jW (x1 + 4))) (r_X (jW (x1 + 5))) (r_X (jW (x1 + 6))) h dL_law_433 (fun x62 M63 r_x62 _ _ h B => ?_)
                    have o_M63 := B.2.2
                    refine lv_aload_n C.1 C.2.1 dL_law_436 rfl (lv_at hl 1 rfl) ?_
                    refine lv_aload_n C.1 C.2.1 dL_law_437 rfl (lv_at hl 3 rfl) ?_
                    refine lv_iload_n C.1 C.2.1 dL_law_438 rfl (lv_at hl 0 rfl) ?_
                    refine jr_iconst C dL_law_439 ?_
                    refine jr_iadd C dL_law_440 ?_
                    obtain ⟨g64, h⟩ := h
                    refine jr_sld C ⟨hX, rfl, hLn, hXs⟩ hbl hbA B (jW_R _) g64 dL_law_441 ?_
                    refine lv_aload_n C.1 C.2.1 dL_law_442 rfl (lv_at hl 3 rfl) ?_
                    refine lv_iload_n C.1 C.2.1 dL_law_443 rfl (lv_at hl 0 rfl) ?_
                    refine jr_iconst C dL_law_444 ?_
                    refine jr_iadd C dL_law_445 ?_
                    obtain ⟨g65, h⟩ := h
                    refine jr_sld C ⟨hX, rfl, hLn, hXs⟩ hbl hbA B (jW_R _) g65 dL_law_446 ?_
                    refine lv_aload_n C.1 C.2.1 dL_law_447 rfl (lv_at hl 3 rfl) ?_
                    refine lv_iload_n C.1 C.2.1 dL_law_448 rfl (lv_at hl 0 rfl) ?_
                    refine jr_iconst C dL_law_449 ?_
                    refine jr_iadd C dL_law_450 ?_
                    obtain ⟨g66, h⟩ := h
                    refine jr_sld C ⟨hX, rfl, hLn, hXs⟩ hbl hbA B (jW_R _) g66 dL_law_451 ?_
                    refine lv_aload_n C.1 C.2.1 dL_law_452 rfl (lv_at hl 3 rfl) ?_
                    refine lv_iload_n C.1 C.2.1 dL_law_453 rfl (lv_at hl 0 rfl) ?_
                    refine jr_iconst C dL_law_454 ?_
                    refine jr_iadd C dL_law_455 ?_
                    obtain ⟨g67, h⟩ := h
                    refine jr_sld C ⟨hX, rfl, hLn, hXs⟩ hbl hbA B (jW_R _) g67 dL_law_456 ?_
                    refine lv_aload_n C.1 C.2.1 dL_law_457 rfl (lv_at hl 3 rfl) ?_
                    refine lv_iload_n C.1 C.2.1 dL_law_458 rfl (lv_at hl 0 rfl) ?_
                    refine jr_iconst C dL_law_459 ?_
                    refine jr_iadd C dL_law_460 ?_
                    obtain ⟨g68, h⟩ := h
                    refine jr_sld C ⟨hX, rfl, hLn, hXs⟩ hbl hbA B (jW_R _) g68 dL_law_461 ?_
                    refine lv_aload_n C.1 C.2.1 dL_law_462 rfl (lv_at hl 3 rfl) ?_
                    refine lv_iload_n C.1 C.2.1 dL_law_463 rfl (lv_at hl 0 rfl) ?_
                    refine jr_bipush C dL_law_464 (by decide) ?_
                    refine jr_iadd C dL_law_466 ?_
                    obtain ⟨g69, h⟩ := h
                    refine jr_sld C ⟨hX, rfl, hLn, hXs⟩ hbl hbA B (jW_R _) g69 dL_law_467 ?_
                    refine cl_X7_change C hl.1 B q_852 ⟨Nat.le_of_ble_eq_true rfl, Nat.le_of_ble_eq_true rfl⟩ ⟨Nat.le_of_ble_eq_true rfl, Nat.le_of_ble_eq_true rfl⟩ (Nat.le_of_ble_eq_true rfl) k_Y (r_X (jW (x1 + 1))) (r_X (jW (x1 + 2))) (r_X (jW (x1 + 3))) (r_X (jW (x1 + 4))) (r_X (jW (x1 + 5))) (r_X (jW (x1 + 6))) h dL_law_468 (fun x70 M71 r_x70 _ _ h B => ?_)
                    have o_M71 := B.2.2
                    refine jr_icmp_eq (tgt := 1623) C r_x62 r_x70 h dL_law_471 (by decide) (fun hc471 h => ?_) (fun hc471 h => ?_)
                    · refine jr_iinc (k := 0) (lv' := fun x72 => [(3, .int (jI x72)), (2, .ref (jD G 252)), (1, .ref (jD G 0)), (0, .ref b)]) C h hl rfl (by decide) (fun _ => rfl) dL_law_1623 (fun x72 h r_x72 ls hl => ?_)
                      refine lv_goto (tgt := 18) C.1 C.2.1 dL_law_1626 (by decide) ?_
                      exact ih18 _ _ _ _ _ _ hd h r_x72 B (lv_sub hl [0, 1, 2, 3] rfl)
                    · refine jr_iconst C dL_law_474 ?_
                      exact h.elim
                  · rw [if_neg hs33_5] at h
                    by_cases hs33_6 : (jAnd (X x1) 63) = 6
                    · rw [if_pos hs33_6] at h
                      refine jr_tableIn (v := 6) (off := 443) (tgt := 476) C (jAnd_R _ _) hs33_6 (by decide) (by decide) (by decide) dL_law_33 (by decide) ?_
                      refine lv_aload_n C.1 C.2.1 dL_law_476 rfl (lv_at hl 2 rfl) ?_
                      refine lv_aload_n C.1 C.2.1 dL_law_477 rfl (lv_at hl 3 rfl) ?_
                      refine lv_iload_n C.1 C.2.1 dL_law_478 rfl (lv_at hl 0 rfl) ?_
                      refine jr_iconst C dL_law_479 ?_
                      refine jr_iadd C dL_law_480 ?_
                      obtain ⟨g73, h⟩ := h
                      refine jr_sld C ⟨hX, rfl, hLn, hXs⟩ hbl hbA B (jW_R _) g73 dL_law_481 ?_
                      refine lv_aload_n C.1 C.2.1 dL_law_482 rfl (lv_at hl 3 rfl) ?_
                      refine lv_iload_n C.1 C.2.1 dL_law_483 rfl (lv_at hl 0 rfl) ?_
                      refine jr_iconst C dL_law_484 ?_
                      refine jr_iadd C dL_law_485 ?_
                      obtain ⟨g74, h⟩ := h
                      refine jr_sld C ⟨hX, rfl, hLn, hXs⟩ hbl hbA B (jW_R _) g74 dL_law_486 ?_
                      refine lv_aload_n C.1 C.2.1 dL_law_487 rfl (lv_at hl 3 rfl) ?_
                      refine lv_iload_n C.1 C.2.1 dL_law_488 rfl (lv_at hl 0 rfl) ?_
                      refine jr_iconst C dL_law_489 ?_
                      refine jr_iadd C dL_law_490 ?_
                      obtain ⟨g75, h⟩ := h
                      refine jr_sld C ⟨hX, rfl, hLn, hXs⟩ hbl hbA B (jW_R _) g75 dL_law_491 ?_
                      refine lv_aload_n C.1 C.2.1 dL_law_492 rfl (lv_at hl 3 rfl) ?_
                      refine lv_iload_n C.1 C.2.1 dL_law_493 rfl (lv_at hl 0 rfl) ?_
                      refine jr_iconst C dL_law_494 ?_
                      refine jr_iadd C dL_law_495 ?_
                      obtain ⟨g76, h⟩ := h
                      refine jr_sld C ⟨hX, rfl, hLn, hXs⟩ hbl hbA B (jW_R _) g76 dL_law_496 ?_
                      refine lv_aload_n C.1 C.2.1 dL_law_497 rfl (lv_at hl 3 rfl) ?_
                      refine lv_iload_n C.1 C.2.1 dL_law_498 rfl (lv_at hl 0 rfl) ?_
                      refine jr_iconst C dL_law_499 ?_
                      refine jr_iadd C dL_law_500 ?_
                      obtain ⟨g77, h⟩ := h
                      refine jr_sld C ⟨hX, rfl, hLn, hXs⟩ hbl hbA B (jW_R _) g77 dL_law_501 ?_
                      refine cl_X6_remove C hl.1 B q_336 ⟨Nat.le_of_ble_eq_true rfl, Nat.le_of_ble_eq_true rfl⟩ ⟨Nat.le_of_ble_eq_true rfl, Nat.le_of_ble_eq_true rfl⟩ (Nat.le_of_ble_eq_true rfl) k_X (r_X (jW (x1 + 1))) (r_X (jW (x1 + 2))) (r_X (jW (x1 + 3))) (r_X (jW (x1 + 4))) (r_X (jW (x1 + 5))) h dL_law_502 (fun x78 M79 r_x78 _ _ h B => ?_)
                      have o_M79 := B.2.2
                      refine lv_aload_n C.1 C.2.1 dL_law_505 rfl (lv_at hl 1 rfl) ?_
                      refine lv_aload_n C.1 C.2.1 dL_law_506 rfl (lv_at hl 3 rfl) ?_
                      refine lv_iload_n C.1 C.2.1 dL_law_507 rfl (lv_at hl 0 rfl) ?_
                      refine jr_iconst C dL_law_508 ?_
                      refine jr_iadd C dL_law_509 ?_
                      obtain ⟨g80, h⟩ := h
                      refine jr_sld C ⟨hX, rfl, hLn, hXs⟩ hbl hbA B (jW_R _) g80 dL_law_510 ?_
                      refine lv_aload_n C.1 C.2.1 dL_law_511 rfl (lv_at hl 3 rfl) ?_
                      refine lv_iload_n C.1 C.2.1 dL_law_512 rfl (lv_at hl 0 rfl) ?_
                      refine jr_iconst C dL_law_513 ?_
                      refine jr_iadd C dL_law_514 ?_
                      obtain ⟨g81, h⟩ := h
                      refine jr_sld C ⟨hX, rfl, hLn, hXs⟩ hbl hbA B (jW_R _) g81 dL_law_515 ?_
                      refine lv_aload_n C.1 C.2.1 dL_law_516 rfl (lv_at hl 3 rfl) ?_
                      refine lv_iload_n C.1 C.2.1 dL_law_517 rfl (lv_at hl 0 rfl) ?_
                      refine jr_iconst C dL_law_518 ?_
                      refine jr_iadd C dL_law_519 ?_
                      obtain ⟨g82, h⟩ := h
                      refine jr_sld C ⟨hX, rfl, hLn, hXs⟩ hbl hbA B (jW_R _) g82 dL_law_520 ?_
                      refine lv_aload_n C.1 C.2.1 dL_law_521 rfl (lv_at hl 3 rfl) ?_
                      refine lv_iload_n C.1 C.2.1 dL_law_522 rfl (lv_at hl 0 rfl) ?_
                      refine jr_iconst C dL_law_523 ?_
                      refine jr_iadd C dL_law_524 ?_
                      obtain ⟨g83, h⟩ := h
                      refine jr_sld C ⟨hX, rfl, hLn, hXs⟩ hbl hbA B (jW_R _) g83 dL_law_525 ?_
                      refine lv_aload_n C.1 C.2.1 dL_law_526 rfl (lv_at hl 3 rfl) ?_
                      refine lv_iload_n C.1 C.2.1 dL_law_527 rfl (lv_at hl 0 rfl) ?_
                      refine jr_iconst C dL_law_528 ?_
                      refine jr_iadd C dL_law_529 ?_
                      obtain ⟨g84, h⟩ := h
                      refine jr_sld C ⟨hX, rfl, hLn, hXs⟩ hbl hbA B (jW_R _) g84 dL_law_530 ?_
                      refine cl_X7_remove C hl.1 B q_860 ⟨Nat.le_of_ble_eq_true rfl, Nat.le_of_ble_eq_true rfl⟩ ⟨Nat.le_of_ble_eq_true rfl, Nat.le_of_ble_eq_true rfl⟩ (Nat.le_of_ble_eq_true rfl) k_Y (r_X (jW (x1 + 1))) (r_X (jW (x1 + 2))) (r_X (jW (x1 + 3))) (r_X (jW (x1 + 4))) (r_X (jW (x1 + 5))) h dL_law_531 (fun x85 M86 r_x85 _ _ h B => ?_)
                      have o_M86 := B.2.2
                      refine jr_icmp_eq (tgt := 1623) C r_x78 r_x85 h dL_law_534 (by decide) (fun hc534 h => ?_) (fun hc534 h => ?_)
                      · refine jr_iinc (k := 0) (lv' := fun x87 => [(3, .int (jI x87)), (2, .ref (jD G 252)), (1, .ref (jD G 0)), (0, .ref b)]) C h hl rfl (by decide) (fun _ => rfl) dL_law_1623 (fun x87 h r_x87 ls hl => ?_)
                        refine lv_goto (tgt := 18) C.1 C.2.1 dL_law_1626 (by decide) ?_
                        exact ih18 _ _ _ _ _ _ hd h r_x87 B (lv_sub hl [0, 1, 2, 3] rfl)
                      · refine jr_iconst C dL_law_537 ?_
                        exact h.elim
                    · rw [if_neg hs33_6] at h
                      by_cases hs33_7 : (jAnd (X x1) 63) = 7
                      · rw [if_pos hs33_7] at h
                        refine jr_tableIn (v := 7) (off := 506) (tgt := 539) C (jAnd_R _ _) hs33_7 (by decide) (by decide) (by decide) dL_law_33 (by decide) ?_
                        refine lv_aload_n C.1 C.2.1 dL_law_539 rfl (lv_at hl 2 rfl) ?_
                        refine lv_aload_n C.1 C.2.1 dL_law_540 rfl (lv_at hl 3 rfl) ?_
                        refine lv_iload_n C.1 C.2.1 dL_law_541 rfl (lv_at hl 0 rfl) ?_
                        refine jr_iconst C dL_law_542 ?_
                        refine jr_iadd C dL_law_543 ?_
                        obtain ⟨g88, h⟩ := h
                        refine jr_sld C ⟨hX, rfl, hLn, hXs⟩ hbl hbA B (jW_R _) g88 dL_law_544 ?_
                        refine lv_aload_n C.1 C.2.1 dL_law_545 rfl (lv_at hl 3 rfl) ?_
                        refine lv_iload_n C.1 C.2.1 dL_law_546 rfl (lv_at hl 0 rfl) ?_
                        refine jr_iconst C dL_law_547 ?_
                        refine jr_iadd C dL_law_548 ?_
                        obtain ⟨g89, h⟩ := h
                        refine jr_sld C ⟨hX, rfl, hLn, hXs⟩ hbl hbA B (jW_R _) g89 dL_law_549 ?_
                        refine lv_aload_n C.1 C.2.1 dL_law_550 rfl (lv_at hl 3 rfl) ?_
                        refine lv_iload_n C.1 C.2.1 dL_law_551 rfl (lv_at hl 0 rfl) ?_
                        refine jr_iconst C dL_law_552 ?_
                        refine jr_iadd C dL_law_553 ?_
                        obtain ⟨g90, h⟩ := h
                        refine jr_sld C ⟨hX, rfl, hLn, hXs⟩ hbl hbA B (jW_R _) g90 dL_law_554 ?_
                        refine cl_X6_removeLine C hl.1 B q_353 ⟨Nat.le_of_ble_eq_true rfl, Nat.le_of_ble_eq_true rfl⟩ ⟨Nat.le_of_ble_eq_true rfl, Nat.le_of_ble_eq_true rfl⟩ (Nat.le_of_ble_eq_true rfl) k_X (r_X (jW (x1 + 1))) (r_X (jW (x1 + 2))) (r_X (jW (x1 + 3))) h dL_law_555 (fun x91 M92 r_x91 _ _ h B => ?_)
                        have o_M92 := B.2.2
                        refine lv_aload_n C.1 C.2.1 dL_law_558 rfl (lv_at hl 1 rfl) ?_
                        refine lv_aload_n C.1 C.2.1 dL_law_559 rfl (lv_at hl 3 rfl) ?_
                        refine lv_iload_n C.1 C.2.1 dL_law_560 rfl (lv_at hl 0 rfl) ?_
                        refine jr_iconst C dL_law_561 ?_
                        refine jr_iadd C dL_law_562 ?_
                        obtain ⟨g93, h⟩ := h
                        refine jr_sld C ⟨hX, rfl, hLn, hXs⟩ hbl hbA B (jW_R _) g93 dL_law_563 ?_
                        refine lv_aload_n C.1 C.2.1 dL_law_564 rfl (lv_at hl 3 rfl) ?_
                        refine lv_iload_n C.1 C.2.1 dL_law_565 rfl (lv_at hl 0 rfl) ?_
                        refine jr_iconst C dL_law_566 ?_
                        refine jr_iadd C dL_law_567 ?_
                        obtain ⟨g94, h⟩ := h
                        refine jr_sld C ⟨hX, rfl, hLn, hXs⟩ hbl hbA B (jW_R _) g94 dL_law_568 ?_
                        refine lv_aload_n C.1 C.2.1 dL_law_569 rfl (lv_at hl 3 rfl) ?_
                        refine lv_iload_n C.1 C.2.1 dL_law_570 rfl (lv_at hl 0 rfl) ?_
                        refine jr_iconst C dL_law_571 ?_
                        refine jr_iadd C dL_law_572 ?_
                        obtain ⟨g95, h⟩ := h
                        refine jr_sld C ⟨hX, rfl, hLn, hXs⟩ hbl hbA B (jW_R _) g95 dL_law_573 ?_
                        refine cl_X7_removeLine C hl.1 B q_872 ⟨Nat.le_of_ble_eq_true rfl, Nat.le_of_ble_eq_true rfl⟩ ⟨Nat.le_of_ble_eq_true rfl, Nat.le_of_ble_eq_true rfl⟩ (Nat.le_of_ble_eq_true rfl) k_Y (r_X (jW (x1 + 1))) (r_X (jW (x1 + 2))) (r_X (jW (x1 + 3))) h dL_law_574 (fun x96 M97 r_x96 _ _ h B => ?_)
                        have o_M97 := B.2.2
                        refine jr_icmp_eq (tgt := 1623) C r_x91 r_x96 h dL_law_577 (by decide) (fun hc577 h => ?_) (fun hc577 h => ?_)
                        · refine jr_iinc (k := 0) (lv' := fun x98 => [(3, .int (jI x98)), (2, .ref (jD G 252)), (1, .ref (jD G 0)), (0, .ref b)]) C h hl rfl (by decide) (fun _ => rfl) dL_law_1623 (fun x98 h r_x98 ls hl => ?_)
                          refine lv_goto (tgt := 18) C.1 C.2.1 dL_law_1626 (by decide) ?_
                          exact ih18 _ _ _ _ _ _ hd h r_x98 B (lv_sub hl [0, 1, 2, 3] rfl)
                        · refine jr_iconst C dL_law_580 ?_
                          exact h.elim
                      · rw [if_neg hs33_7] at h
                        by_cases hs33_8 : (jAnd (X x1) 63) = 8
                        · rw [if_pos hs33_8] at h
                          refine jr_tableIn (v := 8) (off := 549) (tgt := 582) C (jAnd_R _ _) hs33_8 (by decide) (by decide) (by decide) dL_law_33 (by decide) ?_
                          refine lv_aload_n C.1 C.2.1 dL_law_582 rfl (lv_at hl 2 rfl) ?_
                          refine lv_aload_n C.1 C.2.1 dL_law_583 rfl (lv_at hl 3 rfl) ?_
                          refine lv_iload_n C.1 C.2.1 dL_law_584 rfl (lv_at hl 0 rfl) ?_
                          refine jr_iconst C dL_law_585 ?_
                          refine jr_iadd C dL_law_586 ?_
                          obtain ⟨g99, h⟩ := h
                          refine jr_sld C ⟨hX, rfl, hLn, hXs⟩ hbl hbA B (jW_R _) g99 dL_law_587 ?_
                          refine lv_aload_n C.1 C.2.1 dL_law_588 rfl (lv_at hl 3 rfl) ?_
                          refine lv_iload_n C.1 C.2.1 dL_law_589 rfl (lv_at hl 0 rfl) ?_
                          refine jr_iconst C dL_law_590 ?_
                          refine jr_iadd C dL_law_591 ?_
                          obtain ⟨g100, h⟩ := h
                          refine jr_sld C ⟨hX, rfl, hLn, hXs⟩ hbl hbA B (jW_R _) g100 dL_law_592 ?_
                          refine cl_X6_load C hl.1 B q_366 ⟨Nat.le_of_ble_eq_true rfl, Nat.le_of_ble_eq_true rfl⟩ ⟨Nat.le_of_ble_eq_true rfl, Nat.le_of_ble_eq_true rfl⟩ (Nat.le_of_ble_eq_true rfl) k_X (r_X (jW (x1 + 1))) (r_X (jW (x1 + 2))) h dL_law_593 (fun x101 M102 r_x101 _ _ h B => ?_)
                          have o_M102 := B.2.2
                          refine lv_aload_n C.1 C.2.1 dL_law_596 rfl (lv_at hl 1 rfl) ?_
                          refine lv_aload_n C.1 C.2.1 dL_law_597 rfl (lv_at hl 3 rfl) ?_
                          refine lv_iload_n C.1 C.2.1 dL_law_598 rfl (lv_at hl 0 rfl) ?_
                          refine jr_iconst C dL_law_599 ?_
                          refine jr_iadd C dL_law_600 ?_
                          obtain ⟨g103, h⟩ := h
                          refine jr_sld C ⟨hX, rfl, hLn, hXs⟩ hbl hbA B (jW_R _) g103 dL_law_601 ?_
                          refine lv_aload_n C.1 C.2.1 dL_law_602 rfl (lv_at hl 3 rfl) ?_
                          refine lv_iload_n C.1 C.2.1 dL_law_603 rfl (lv_at hl 0 rfl) ?_
                          refine jr_iconst C dL_law_604 ?_
                          refine jr_iadd C dL_law_605 ?_
                          obtain ⟨g104, h⟩ := h
                          refine jr_sld C ⟨hX, rfl, hLn, hXs⟩ hbl hbA B (jW_R _) g104 dL_law_606 ?_
                          refine cl_X7_load C hl.1 B q_917 ⟨Nat.le_of_ble_eq_true rfl, Nat.le_of_ble_eq_true rfl⟩ ⟨Nat.le_of_ble_eq_true rfl, Nat.le_of_ble_eq_true rfl⟩ (Nat.le_of_ble_eq_true rfl) k_Y (r_X (jW (x1 + 1))) (r_X (jW (x1 + 2))) h dL_law_607 (fun x105 M106 r_x105 _ _ h B => ?_)
                          have o_M106 := B.2.2
                          refine jr_icmp_eq (tgt := 1623) C r_x101 r_x105 h dL_law_610 (by decide) (fun hc610 h => ?_) (fun hc610 h => ?_)
                          · refine jr_iinc (k := 0) (lv' := fun x107 => [(3, .int (jI x107)), (2, .ref (jD G 252)), (1, .ref (jD G 0)), (0, .ref b)]) C h hl rfl (by decide) (fun _ => rfl) dL_law_1623 (fun x107 h r_x107 ls hl => ?_)
                            refine lv_goto (tgt := 18) C.1 C.2.1 dL_law_1626 (by decide) ?_
                            exact ih18 _ _ _ _ _ _ hd h r_x107 B (lv_sub hl [0, 1, 2, 3] rfl)
                          · refine jr_iconst C dL_law_613 ?_
                            exact h.elim
                        · rw [if_neg hs33_8] at h
                          by_cases hs33_9 : (jAnd (X x1) 63) = 9
                          · rw [if_pos hs33_9] at h
                            refine jr_tableIn (v := 9) (off := 582) (tgt := 615) C (jAnd_R _ _) hs33_9 (by decide) (by decide) (by decide) dL_law_33 (by decide) ?_
                            refine lv_aload_n C.1 C.2.1 dL_law_615 rfl (lv_at hl 2 rfl) ?_
                            refine lv_aload_n C.1 C.2.1 dL_law_616 rfl (lv_at hl 3 rfl) ?_
                            refine lv_iload_n C.1 C.2.1 dL_law_617 rfl (lv_at hl 0 rfl) ?_
                            refine jr_iconst C dL_law_618 ?_
                            refine jr_iadd C dL_law_619 ?_
                            obtain ⟨g108, h⟩ := h
                            refine jr_sld C ⟨hX, rfl, hLn, hXs⟩ hbl hbA B (jW_R _) g108 dL_law_620 ?_
                            refine lv_aload_n C.1 C.2.1 dL_law_621 rfl (lv_at hl 3 rfl) ?_
                            refine lv_iload_n C.1 C.2.1 dL_law_622 rfl (lv_at hl 0 rfl) ?_
                            refine jr_iconst C dL_law_623 ?_
                            refine jr_iadd C dL_law_624 ?_
                            obtain ⟨g109, h⟩ := h
                            refine jr_sld C ⟨hX, rfl, hLn, hXs⟩ hbl hbA B (jW_R _) g109 dL_law_625 ?_
                            obtain ⟨j626_111, hj626_111, h⟩ := jx_join (P := fun j626_111 : Int → Prop => ∀ (x110 : Int) (H : Heap) (locs : List Loc) (ls : Array Slot), j626_111 x110 → (x110 = 0 ∨ x110 = 1) → Hp G M2 s.heap H locs → lv_has ls 8 [(3, .int (jI x1)), (2, .ref (jD G 252)), (1, .ref (jD G 0)), (0, .ref b)] → W p l e room_1 (s.setDrawn d0) m #[Value.ref b] below meth c H locs 262 18807 (lw_Z below #[Value.ref b] s) (F0 m 634 ls [.int (jI x110), .int (jI (X (jW (x1 + 1)))), .ref (jD G 0)])) h (by
                              intro x110 H locs ls h z_x110 B hl
                              refine cl_X6_associate C hl.1 B q_439 ⟨Nat.le_of_ble_eq_true rfl, Nat.le_of_ble_eq_true rfl⟩ ⟨Nat.le_of_ble_eq_true rfl, Nat.le_of_ble_eq_true rfl⟩ (Nat.le_of_ble_eq_true rfl) k_X (r_X (jW (x1 + 1))) z_x110 h dL_law_634 (fun x112 M113 r_x112 _ _ h B => ?_)
                              have o_M113 := B.2.2
                              refine lv_aload_n C.1 C.2.1 dL_law_637 rfl (lv_at hl 1 rfl) ?_
                              refine lv_aload_n C.1 C.2.1 dL_law_638 rfl (lv_at hl 3 rfl) ?_
                              refine lv_iload_n C.1 C.2.1 dL_law_639 rfl (lv_at hl 0 rfl) ?_
                              refine jr_iconst C dL_law_640 ?_
                              refine jr_iadd C dL_law_641 ?_
                              obtain ⟨g114, h⟩ := h
                              refine jr_sld C ⟨hX, rfl, hLn, hXs⟩ hbl hbA B (jW_R _) g114 dL_law_642 ?_
                              refine lv_aload_n C.1 C.2.1 dL_law_643 rfl (lv_at hl 3 rfl) ?_
                              refine lv_iload_n C.1 C.2.1 dL_law_644 rfl (lv_at hl 0 rfl) ?_
                              refine jr_iconst C dL_law_645 ?_
                              refine jr_iadd C dL_law_646 ?_
                              obtain ⟨g115, h⟩ := h
                              refine jr_sld C ⟨hX, rfl, hLn, hXs⟩ hbl hbA B (jW_R _) g115 dL_law_647 ?_
                              refine jr_if_eq (tgt := 655) C (r_X (jW (x1 + 2))) h dL_law_648 (by decide) (fun hc648 h => ?_) (fun hc648 h => ?_)
                              · refine jr_iconst C dL_law_655 ?_
                                refine cl_X7_associate C hl.1 B q_946 ⟨Nat.le_of_ble_eq_true rfl, Nat.le_of_ble_eq_true rfl⟩ ⟨Nat.le_of_ble_eq_true rfl, Nat.le_of_ble_eq_true rfl⟩ (Nat.le_of_ble_eq_true rfl) k_Y (r_X (jW (x1 + 1))) (Or.inl rfl) h dL_law_656 (fun x116 M117 r_x116 _ _ h B => ?_)
                                have o_M117 := B.2.2
                                refine jr_icmp_eq (tgt := 1623) C r_x112 r_x116 h dL_law_659 (by decide) (fun hc659 h => ?_) (fun hc659 h => ?_)
                                · refine jr_iinc (k := 0) (lv' := fun x118 => [(3, .int (jI x118)), (2, .ref (jD G 252)), (1, .ref (jD G 0)), (0, .ref b)]) C h hl rfl (by decide) (fun _ => rfl) dL_law_1623 (fun x118 h r_x118 ls hl => ?_)
                                  refine lv_goto (tgt := 18) C.1 C.2.1 dL_law_1626 (by decide) ?_
                                  exact ih18 _ _ _ _ _ _ hd h r_x118 B (lv_sub hl [0, 1, 2, 3] rfl)
                                · refine jr_iconst C dL_law_662 ?_
                                  exact h.elim
                              · refine jr_iconst C dL_law_651 ?_
                                refine lv_goto (tgt := 656) C.1 C.2.1 dL_law_652 (by decide) ?_
                                refine cl_X7_associate C hl.1 B q_946 ⟨Nat.le_of_ble_eq_true rfl, Nat.le_of_ble_eq_true rfl⟩ ⟨Nat.le_of_ble_eq_true rfl, Nat.le_of_ble_eq_true rfl⟩ (Nat.le_of_ble_eq_true rfl) k_Y (r_X (jW (x1 + 1))) (Or.inr rfl) h dL_law_656 (fun x119 M120 r_x119 _ _ h B => ?_)
                                have o_M120 := B.2.2
                                refine jr_icmp_eq (tgt := 1623) C r_x112 r_x119 h dL_law_659 (by decide) (fun hc659 h => ?_) (fun hc659 h => ?_)
                                · refine jr_iinc (k := 0) (lv' := fun x121 => [(3, .int (jI x121)), (2, .ref (jD G 252)), (1, .ref (jD G 0)), (0, .ref b)]) C h hl rfl (by decide) (fun _ => rfl) dL_law_1623 (fun x121 h r_x121 ls hl => ?_)
                                  refine lv_goto (tgt := 18) C.1 C.2.1 dL_law_1626 (by decide) ?_
                                  exact ih18 _ _ _ _ _ _ hd h r_x121 B (lv_sub hl [0, 1, 2, 3] rfl)
                                · refine jr_iconst C dL_law_662 ?_
                                  exact h.elim)
                            refine jr_if_eq (tgt := 633) C (r_X (jW (x1 + 2))) h dL_law_626 (by decide) (fun hc626 h => ?_) (fun hc626 h => ?_)
                            · refine jr_iconst C dL_law_633 ?_
                              exact hj626_111 _ _ _ _ h (Or.inl rfl) B (lv_sub hl [0, 1, 2, 3] rfl)
                            · refine jr_iconst C dL_law_629 ?_
                              refine lv_goto (tgt := 634) C.1 C.2.1 dL_law_630 (by decide) ?_
                              exact hj626_111 _ _ _ _ h (Or.inr rfl) B (lv_sub hl [0, 1, 2, 3] rfl)
                          · rw [if_neg hs33_9] at h
                            by_cases hs33_10 : (jAnd (X x1) 63) = 10
                            · rw [if_pos hs33_10] at h
                              refine jr_tableIn (v := 10) (off := 631) (tgt := 664) C (jAnd_R _ _) hs33_10 (by decide) (by decide) (by decide) dL_law_33 (by decide) ?_
                              refine lv_aload_n C.1 C.2.1 dL_law_664 rfl (lv_at hl 2 rfl) ?_
                              refine lv_aload_n C.1 C.2.1 dL_law_665 rfl (lv_at hl 3 rfl) ?_
                              refine lv_iload_n C.1 C.2.1 dL_law_666 rfl (lv_at hl 0 rfl) ?_
                              refine jr_iconst C dL_law_667 ?_
                              refine jr_iadd C dL_law_668 ?_
                              obtain ⟨g122, h⟩ := h
                              refine jr_sld C ⟨hX, rfl, hLn, hXs⟩ hbl hbA B (jW_R _) g122 dL_law_669 ?_
                              refine lv_aload_n C.1 C.2.1 dL_law_670 rfl (lv_at hl 3 rfl) ?_
                              refine lv_iload_n C.1 C.2.1 dL_law_671 rfl (lv_at hl 0 rfl) ?_
                              refine jr_iconst C dL_law_672 ?_
                              refine jr_iadd C dL_law_673 ?_
                              obtain ⟨g123, h⟩ := h
                              refine jr_sld C ⟨hX, rfl, hLn, hXs⟩ hbl hbA B (jW_R _) g123 dL_law_674 ?_
                              refine lv_aload_n C.1 C.2.1 dL_law_675 rfl (lv_at hl 3 rfl) ?_
                              refine lv_iload_n C.1 C.2.1 dL_law_676 rfl (lv_at hl 0 rfl) ?_
                              refine jr_iconst C dL_law_677 ?_
                              refine jr_iadd C dL_law_678 ?_
                              obtain ⟨g124, h⟩ := h
                              refine jr_sld C ⟨hX, rfl, hLn, hXs⟩ hbl hbA B (jW_R _) g124 dL_law_679 ?_
                              refine lv_aload_n C.1 C.2.1 dL_law_680 rfl (lv_at hl 3 rfl) ?_
                              refine lv_iload_n C.1 C.2.1 dL_law_681 rfl (lv_at hl 0 rfl) ?_
                              refine jr_iconst C dL_law_682 ?_
                              refine jr_iadd C dL_law_683 ?_
                              obtain ⟨g125, h⟩ := h
                              refine jr_sld C ⟨hX, rfl, hLn, hXs⟩ hbl hbA B (jW_R _) g125 dL_law_684 ?_
                              refine cl_X6_define C hl.1 B q_447 ⟨Nat.le_of_ble_eq_true rfl, Nat.le_of_ble_eq_true rfl⟩ ⟨Nat.le_of_ble_eq_true rfl, Nat.le_of_ble_eq_true rfl⟩ (Nat.le_of_ble_eq_true rfl) k_X (r_X (jW (x1 + 1))) (r_X (jW (x1 + 2))) (r_X (jW (x1 + 3))) (r_X (jW (x1 + 4))) h dL_law_685 (fun x126 M127 r_x126 _ _ h B => ?_)
                              have o_M127 := B.2.2
                              refine lv_aload_n C.1 C.2.1 dL_law_688 rfl (lv_at hl 1 rfl) ?_
                              refine lv_aload_n C.1 C.2.1 dL_law_689 rfl (lv_at hl 3 rfl) ?_
                              refine lv_iload_n C.1 C.2.1 dL_law_690 rfl (lv_at hl 0 rfl) ?_
                              refine jr_iconst C dL_law_691 ?_
                              refine jr_iadd C dL_law_692 ?_
                              obtain ⟨g128, h⟩ := h
                              refine jr_sld C ⟨hX, rfl, hLn, hXs⟩ hbl hbA B (jW_R _) g128 dL_law_693 ?_
                              refine lv_aload_n C.1 C.2.1 dL_law_694 rfl (lv_at hl 3 rfl) ?_
                              refine lv_iload_n C.1 C.2.1 dL_law_695 rfl (lv_at hl 0 rfl) ?_
                              refine jr_iconst C dL_law_696 ?_
                              refine jr_iadd C dL_law_697 ?_
                              obtain ⟨g129, h⟩ := h
                              refine jr_sld C ⟨hX, rfl, hLn, hXs⟩ hbl hbA B (jW_R _) g129 dL_law_698 ?_
                              refine lv_aload_n C.1 C.2.1 dL_law_699 rfl (lv_at hl 3 rfl) ?_
                              refine lv_iload_n C.1 C.2.1 dL_law_700 rfl (lv_at hl 0 rfl) ?_
                              refine jr_iconst C dL_law_701 ?_
                              refine jr_iadd C dL_law_702 ?_
                              obtain ⟨g130, h⟩ := h
                              refine jr_sld C ⟨hX, rfl, hLn, hXs⟩ hbl hbA B (jW_R _) g130 dL_law_703 ?_
                              refine lv_aload_n C.1 C.2.1 dL_law_704 rfl (lv_at hl 3 rfl) ?_
                              refine lv_iload_n C.1 C.2.1 dL_law_705 rfl (lv_at hl 0 rfl) ?_
                              refine jr_iconst C dL_law_706 ?_
                              refine jr_iadd C dL_law_707 ?_
                              obtain ⟨g131, h⟩ := h
                              refine jr_sld C ⟨hX, rfl, hLn, hXs⟩ hbl hbA B (jW_R _) g131 dL_law_708 ?_
                              refine cl_X7_define C hl.1 B q_954 ⟨Nat.le_of_ble_eq_true rfl, Nat.le_of_ble_eq_true rfl⟩ ⟨Nat.le_of_ble_eq_true rfl, Nat.le_of_ble_eq_true rfl⟩ (Nat.le_of_ble_eq_true rfl) k_Y (r_X (jW (x1 + 1))) (r_X (jW (x1 + 2))) (r_X (jW (x1 + 3))) (r_X (jW (x1 + 4))) h dL_law_709 (fun x132 M133 r_x132 _ _ h B => ?_)
                              have o_M133 := B.2.2
                              refine jr_icmp_eq (tgt := 1623) C r_x126 r_x132 h dL_law_712 (by decide) (fun hc712 h => ?_) (fun hc712 h => ?_)
                              · refine jr_iinc (k := 0) (lv' := fun x134 => [(3, .int (jI x134)), (2, .ref (jD G 252)), (1, .ref (jD G 0)), (0, .ref b)]) C h hl rfl (by decide) (fun _ => rfl) dL_law_1623 (fun x134 h r_x134 ls hl => ?_)
                                refine lv_goto (tgt := 18) C.1 C.2.1 dL_law_1626 (by decide) ?_
                                exact ih18 _ _ _ _ _ _ hd h r_x134 B (lv_sub hl [0, 1, 2, 3] rfl)
                              · refine jr_iconst C dL_law_715 ?_
                                exact h.elim
                            · rw [if_neg hs33_10] at h
                              by_cases hs33_11 : (jAnd (X x1) 63) = 11
                              · rw [if_pos hs33_11] at h
                                refine jr_tableIn (v := 11) (off := 684) (tgt := 717) C (jAnd_R _ _) hs33_11 (by decide) (by decide) (by decide) dL_law_33 (by decide) ?_
                                refine lv_aload_n C.1 C.2.1 dL_law_717 rfl (lv_at hl 2 rfl) ?_
                                refine lv_aload_n C.1 C.2.1 dL_law_718 rfl (lv_at hl 3 rfl) ?_
                                refine lv_iload_n C.1 C.2.1 dL_law_719 rfl (lv_at hl 0 rfl) ?_
                                refine jr_iconst C dL_law_720 ?_
                                refine jr_iadd C dL_law_721 ?_
                                obtain ⟨g135, h⟩ := h
                                refine jr_sld C ⟨hX, rfl, hLn, hXs⟩ hbl hbA B (jW_R _) g135 dL_law_722 ?_
                                refine lv_aload_n C.1 C.2.1 dL_law_723 rfl (lv_at hl 3 rfl) ?_
                                refine lv_iload_n C.1 C.2.1 dL_law_724 rfl (lv_at hl 0 rfl) ?_
                                refine jr_iconst C dL_law_725 ?_
                                refine jr_iadd C dL_law_726 ?_
                                obtain ⟨g136, h⟩ := h
                                refine jr_sld C ⟨hX, rfl, hLn, hXs⟩ hbl hbA B (jW_R _) g136 dL_law_727 ?_
                                refine lv_aload_n C.1 C.2.1 dL_law_728 rfl (lv_at hl 3 rfl) ?_
                                refine lv_iload_n C.1 C.2.1 dL_law_729 rfl (lv_at hl 0 rfl) ?_
                                refine jr_iconst C dL_law_730 ?_
                                refine jr_iadd C dL_law_731 ?_
                                obtain ⟨g137, h⟩ := h
                                refine jr_sld C ⟨hX, rfl, hLn, hXs⟩ hbl hbA B (jW_R _) g137 dL_law_732 ?_
                                refine lv_aload_n C.1 C.2.1 dL_law_733 rfl (lv_at hl 3 rfl) ?_
                                refine lv_iload_n C.1 C.2.1 dL_law_734 rfl (lv_at hl 0 rfl) ?_
                                refine jr_iconst C dL_law_735 ?_
                                refine jr_iadd C dL_law_736 ?_
                                obtain ⟨g138, h⟩ := h
                                refine jr_sld C ⟨hX, rfl, hLn, hXs⟩ hbl hbA B (jW_R _) g138 dL_law_737 ?_
                                obtain ⟨j738_140, hj738_140, h⟩ := jx_join (P := fun j738_140 : Int → Prop => ∀ (x139 : Int) (H : Heap) (locs : List Loc) (ls : Array Slot), j738_140 x139 → (x139 = 0 ∨ x139 = 1) → Hp G M2 s.heap H locs → lv_has ls 8 [(3, .int (jI x1)), (2, .ref (jD G 252)), (1, .ref (jD G 0)), (0, .ref b)] → W p l e room_1 (s.setDrawn d0) m #[Value.ref b] below meth c H locs 262 18807 (lw_Z below #[Value.ref b] s) (F0 m 746 ls [.int (jI x139), .int (jI (X (jW (x1 + 3)))), .int (jI (X (jW (x1 + 2)))), .int (jI (X (jW (x1 + 1)))), .ref (jD G 0)])) h (by
                                  intro x139 H locs ls h z_x139 B hl
                                  refine lv_aload_n C.1 C.2.1 dL_law_746 rfl (lv_at hl 3 rfl) ?_
                                  refine lv_iload_n C.1 C.2.1 dL_law_747 rfl (lv_at hl 0 rfl) ?_
                                  refine jr_iconst C dL_law_748 ?_
                                  refine jr_iadd C dL_law_749 ?_
                                  obtain ⟨g141, h⟩ := h
                                  refine jr_sld C ⟨hX, rfl, hLn, hXs⟩ hbl hbA B (jW_R _) g141 dL_law_750 ?_
                                  refine cl_X6_select C hl.1 B q_452 ⟨Nat.le_of_ble_eq_true rfl, Nat.le_of_ble_eq_true rfl⟩ ⟨Nat.le_of_ble_eq_true rfl, Nat.le_of_ble_eq_true rfl⟩ (Nat.le_of_ble_eq_true rfl) k_X (r_X (jW (x1 + 1))) (r_X (jW (x1 + 2))) (r_X (jW (x1 + 3))) z_x139 (r_X (jW (x1 + 5))) h dL_law_751 (fun x142 M143 r_x142 _ _ h B => ?_)
                                  have o_M143 := B.2.2
                                  refine lv_aload_n C.1 C.2.1 dL_law_754 rfl (lv_at hl 1 rfl) ?_
                                  refine lv_aload_n C.1 C.2.1 dL_law_755 rfl (lv_at hl 3 rfl) ?_
                                  refine lv_iload_n C.1 C.2.1 dL_law_756 rfl (lv_at hl 0 rfl) ?_
                                  refine jr_iconst C dL_law_757 ?_
                                  refine jr_iadd C dL_law_758 ?_
                                  obtain ⟨g144, h⟩ := h
                                  refine jr_sld C ⟨hX, rfl, hLn, hXs⟩ hbl hbA B (jW_R _) g144 dL_law_759 ?_
                                  refine lv_aload_n C.1 C.2.1 dL_law_760 rfl (lv_at hl 3 rfl) ?_
                                  refine lv_iload_n C.1 C.2.1 dL_law_761 rfl (lv_at hl 0 rfl) ?_
                                  refine jr_iconst C dL_law_762 ?_
                                  refine jr_iadd C dL_law_763 ?_
                                  obtain ⟨g145, h⟩ := h
                                  refine jr_sld C ⟨hX, rfl, hLn, hXs⟩ hbl hbA B (jW_R _) g145 dL_law_764 ?_
                                  refine lv_aload_n C.1 C.2.1 dL_law_765 rfl (lv_at hl 3 rfl) ?_
                                  refine lv_iload_n C.1 C.2.1 dL_law_766 rfl (lv_at hl 0 rfl) ?_
                                  refine jr_iconst C dL_law_767 ?_
                                  refine jr_iadd C dL_law_768 ?_
                                  obtain ⟨g146, h⟩ := h
                                  refine jr_sld C ⟨hX, rfl, hLn, hXs⟩ hbl hbA B (jW_R _) g146 dL_law_769 ?_
                                  refine lv_aload_n C.1 C.2.1 dL_law_770 rfl (lv_at hl 3 rfl) ?_
                                  refine lv_iload_n C.1 C.2.1 dL_law_771 rfl (lv_at hl 0 rfl) ?_
                                  refine jr_iconst C dL_law_772 ?_
                                  refine jr_iadd C dL_law_773 ?_
                                  obtain ⟨g147, h⟩ := h
                                  refine jr_sld C ⟨hX, rfl, hLn, hXs⟩ hbl hbA B (jW_R _) g147 dL_law_774 ?_
                                  refine jr_if_eq (tgt := 782) C (r_X (jW (x1 + 4))) h dL_law_775 (by decide) (fun hc775 h => ?_) (fun hc775 h => ?_)
                                  · refine jr_iconst C dL_law_782 ?_
                                    refine lv_aload_n C.1 C.2.1 dL_law_783 rfl (lv_at hl 3 rfl) ?_
                                    refine lv_iload_n C.1 C.2.1 dL_law_784 rfl (lv_at hl 0 rfl) ?_
                                    refine jr_iconst C dL_law_785 ?_
                                    refine jr_iadd C dL_law_786 ?_
                                    obtain ⟨g148, h⟩ := h
                                    refine jr_sld C ⟨hX, rfl, hLn, hXs⟩ hbl hbA B (jW_R _) g148 dL_law_787 ?_
                                    refine cl_X7_select C hl.1 B q_969 ⟨Nat.le_of_ble_eq_true rfl, Nat.le_of_ble_eq_true rfl⟩ ⟨Nat.le_of_ble_eq_true rfl, Nat.le_of_ble_eq_true rfl⟩ (Nat.le_of_ble_eq_true rfl) k_Y (r_X (jW (x1 + 1))) (r_X (jW (x1 + 2))) (r_X (jW (x1 + 3))) (Or.inl rfl) (r_X (jW (x1 + 5))) h dL_law_788 (fun x149 M150 r_x149 _ _ h B => ?_)
                                    have o_M150 := B.2.2
                                    refine jr_icmp_eq (tgt := 1623) C r_x142 r_x149 h dL_law_791 (by decide) (fun hc791 h => ?_) (fun hc791 h => ?_)
                                    · refine jr_iinc (k := 0) (lv' := fun x151 => [(3, .int (jI x151)), (2, .ref (jD G 252)), (1, .ref (jD G 0)), (0, .ref b)]) C h hl rfl (by decide) (fun _ => rfl) dL_law_1623 (fun x151 h r_x151 ls hl => ?_)
                                      refine lv_goto (tgt := 18) C.1 C.2.1 dL_law_1626 (by decide) ?_
                                      exact ih18 _ _ _ _ _ _ hd h r_x151 B (lv_sub hl [0, 1, 2, 3] rfl)
                                    · refine jr_iconst C dL_law_794 ?_
                                      exact h.elim
                                  · refine jr_iconst C dL_law_778 ?_
                                    refine lv_goto (tgt := 783) C.1 C.2.1 dL_law_779 (by decide) ?_
                                    refine lv_aload_n C.1 C.2.1 dL_law_783 rfl (lv_at hl 3 rfl) ?_
                                    refine lv_iload_n C.1 C.2.1 dL_law_784 rfl (lv_at hl 0 rfl) ?_
                                    refine jr_iconst C dL_law_785 ?_
                                    refine jr_iadd C dL_law_786 ?_
                                    obtain ⟨g152, h⟩ := h
                                    refine jr_sld C ⟨hX, rfl, hLn, hXs⟩ hbl hbA B (jW_R _) g152 dL_law_787 ?_
                                    refine cl_X7_select C hl.1 B q_969 ⟨Nat.le_of_ble_eq_true rfl, Nat.le_of_ble_eq_true rfl⟩ ⟨Nat.le_of_ble_eq_true rfl, Nat.le_of_ble_eq_true rfl⟩ (Nat.le_of_ble_eq_true rfl) k_Y (r_X (jW (x1 + 1))) (r_X (jW (x1 + 2))) (r_X (jW (x1 + 3))) (Or.inr rfl) (r_X (jW (x1 + 5))) h dL_law_788 (fun x153 M154 r_x153 _ _ h B => ?_)
                                    have o_M154 := B.2.2
                                    refine jr_icmp_eq (tgt := 1623) C r_x142 r_x153 h dL_law_791 (by decide) (fun hc791 h => ?_) (fun hc791 h => ?_)
                                    · refine jr_iinc (k := 0) (lv' := fun x155 => [(3, .int (jI x155)), (2, .ref (jD G 252)), (1, .ref (jD G 0)), (0, .ref b)]) C h hl rfl (by decide) (fun _ => rfl) dL_law_1623 (fun x155 h r_x155 ls hl => ?_)
                                      refine lv_goto (tgt := 18) C.1 C.2.1 dL_law_1626 (by decide) ?_
                                      exact ih18 _ _ _ _ _ _ hd h r_x155 B (lv_sub hl [0, 1, 2, 3] rfl)
                                    · refine jr_iconst C dL_law_794 ?_
                                      exact h.elim)
                                refine jr_if_eq (tgt := 745) C (r_X (jW (x1 + 4))) h dL_law_738 (by decide) (fun hc738 h => ?_) (fun hc738 h => ?_)
                                · refine jr_iconst C dL_law_745 ?_
                                  exact hj738_140 _ _ _ _ h (Or.inl rfl) B (lv_sub hl [0, 1, 2, 3] rfl)
                                · refine jr_iconst C dL_law_741 ?_
                                  refine lv_goto (tgt := 746) C.1 C.2.1 dL_law_742 (by decide) ?_
                                  exact hj738_140 _ _ _ _ h (Or.inr rfl) B (lv_sub hl [0, 1, 2, 3] rfl)
                              · rw [if_neg hs33_11] at h
                                by_cases hs33_12 : (jAnd (X x1) 63) = 12
                                · rw [if_pos hs33_12] at h
                                  refine jr_tableIn (v := 12) (off := 763) (tgt := 796) C (jAnd_R _ _) hs33_12 (by decide) (by decide) (by decide) dL_law_33 (by decide) ?_
                                  refine lv_aload_n C.1 C.2.1 dL_law_796 rfl (lv_at hl 2 rfl) ?_
                                  refine lv_aload_n C.1 C.2.1 dL_law_797 rfl (lv_at hl 3 rfl) ?_
                                  refine lv_iload_n C.1 C.2.1 dL_law_798 rfl (lv_at hl 0 rfl) ?_
                                  refine jr_iconst C dL_law_799 ?_
                                  refine jr_iadd C dL_law_800 ?_
                                  obtain ⟨g156, h⟩ := h
                                  refine jr_sld C ⟨hX, rfl, hLn, hXs⟩ hbl hbA B (jW_R _) g156 dL_law_801 ?_
                                  refine lv_aload_n C.1 C.2.1 dL_law_802 rfl (lv_at hl 3 rfl) ?_
                                  refine lv_iload_n C.1 C.2.1 dL_law_803 rfl (lv_at hl 0 rfl) ?_
                                  refine jr_iconst C dL_law_804 ?_
                                  refine jr_iadd C dL_law_805 ?_
                                  obtain ⟨g157, h⟩ := h
                                  refine jr_sld C ⟨hX, rfl, hLn, hXs⟩ hbl hbA B (jW_R _) g157 dL_law_806 ?_
                                  refine lv_aload_n C.1 C.2.1 dL_law_807 rfl (lv_at hl 3 rfl) ?_
                                  refine lv_iload_n C.1 C.2.1 dL_law_808 rfl (lv_at hl 0 rfl) ?_
                                  refine jr_iconst C dL_law_809 ?_
                                  refine jr_iadd C dL_law_810 ?_
                                  obtain ⟨g158, h⟩ := h
                                  refine jr_sld C ⟨hX, rfl, hLn, hXs⟩ hbl hbA B (jW_R _) g158 dL_law_811 ?_
                                  refine lv_aload_n C.1 C.2.1 dL_law_812 rfl (lv_at hl 3 rfl) ?_
                                  refine lv_iload_n C.1 C.2.1 dL_law_813 rfl (lv_at hl 0 rfl) ?_
                                  refine jr_iconst C dL_law_814 ?_
                                  refine jr_iadd C dL_law_815 ?_
                                  obtain ⟨g159, h⟩ := h
                                  refine jr_sld C ⟨hX, rfl, hLn, hXs⟩ hbl hbA B (jW_R _) g159 dL_law_816 ?_
                                  refine cl_X6_combine C hl.1 B q_521 ⟨Nat.le_of_ble_eq_true rfl, Nat.le_of_ble_eq_true rfl⟩ ⟨Nat.le_of_ble_eq_true rfl, Nat.le_of_ble_eq_true rfl⟩ (Nat.le_of_ble_eq_true rfl) k_X (r_X (jW (x1 + 1))) (r_X (jW (x1 + 2))) (r_X (jW (x1 + 3))) (r_X (jW (x1 + 4))) h dL_law_817 (fun x160 M161 r_x160 _ _ h B => ?_)
                                  have o_M161 := B.2.2
                                  refine lv_aload_n C.1 C.2.1 dL_law_820 rfl (lv_at hl 1 rfl) ?_
                                  refine lv_aload_n C.1 C.2.1 dL_law_821 rfl (lv_at hl 3 rfl) ?_
                                  refine lv_iload_n C.1 C.2.1 dL_law_822 rfl (lv_at hl 0 rfl) ?_
                                  refine jr_iconst C dL_law_823 ?_
                                  refine jr_iadd C dL_law_824 ?_
                                  obtain ⟨g162, h⟩ := h
                                  refine jr_sld C ⟨hX, rfl, hLn, hXs⟩ hbl hbA B (jW_R _) g162 dL_law_825 ?_
                                  refine lv_aload_n C.1 C.2.1 dL_law_826 rfl (lv_at hl 3 rfl) ?_
                                  refine lv_iload_n C.1 C.2.1 dL_law_827 rfl (lv_at hl 0 rfl) ?_
                                  refine jr_iconst C dL_law_828 ?_
                                  refine jr_iadd C dL_law_829 ?_
                                  obtain ⟨g163, h⟩ := h
                                  refine jr_sld C ⟨hX, rfl, hLn, hXs⟩ hbl hbA B (jW_R _) g163 dL_law_830 ?_
                                  refine lv_aload_n C.1 C.2.1 dL_law_831 rfl (lv_at hl 3 rfl) ?_
                                  refine lv_iload_n C.1 C.2.1 dL_law_832 rfl (lv_at hl 0 rfl) ?_
                                  refine jr_iconst C dL_law_833 ?_
                                  refine jr_iadd C dL_law_834 ?_
                                  obtain ⟨g164, h⟩ := h
                                  refine jr_sld C ⟨hX, rfl, hLn, hXs⟩ hbl hbA B (jW_R _) g164 dL_law_835 ?_
                                  refine lv_aload_n C.1 C.2.1 dL_law_836 rfl (lv_at hl 3 rfl) ?_
                                  refine lv_iload_n C.1 C.2.1 dL_law_837 rfl (lv_at hl 0 rfl) ?_
                                  refine jr_iconst C dL_law_838 ?_
                                  refine jr_iadd C dL_law_839 ?_
                                  obtain ⟨g165, h⟩ := h
                                  refine jr_sld C ⟨hX, rfl, hLn, hXs⟩ hbl hbA B (jW_R _) g165 dL_law_840 ?_
                                  refine cl_X7_combine C hl.1 B q_1025 ⟨Nat.le_of_ble_eq_true rfl, Nat.le_of_ble_eq_true rfl⟩ ⟨Nat.le_of_ble_eq_true rfl, Nat.le_of_ble_eq_true rfl⟩ (Nat.le_of_ble_eq_true rfl) k_Y (r_X (jW (x1 + 1))) (r_X (jW (x1 + 2))) (r_X (jW (x1 + 3))) (r_X (jW (x1 + 4))) h dL_law_841 (fun x166 M167 r_x166 _ _ h B => ?_)
                                  have o_M167 := B.2.2
                                  refine jr_icmp_eq (tgt := 1623) C r_x160 r_x166 h dL_law_844 (by decide) (fun hc844 h => ?_) (fun hc844 h => ?_)
                                  · refine jr_iinc (k := 0) (lv' := fun x168 => [(3, .int (jI x168)), (2, .ref (jD G 252)), (1, .ref (jD G 0)), (0, .ref b)]) C h hl rfl (by decide) (fun _ => rfl) dL_law_1623 (fun x168 h r_x168 ls hl => ?_)
                                    refine lv_goto (tgt := 18) C.1 C.2.1 dL_law_1626 (by decide) ?_
                                    exact ih18 _ _ _ _ _ _ hd h r_x168 B (lv_sub hl [0, 1, 2, 3] rfl)
                                  · refine jr_iconst C dL_law_847 ?_
                                    exact h.elim
                                · rw [if_neg hs33_12] at h
                                  by_cases hs33_13 : (jAnd (X x1) 63) = 13
                                  · rw [if_pos hs33_13] at h
                                    refine jr_tableIn (v := 13) (off := 816) (tgt := 849) C (jAnd_R _ _) hs33_13 (by decide) (by decide) (by decide) dL_law_33 (by decide) ?_
                                    refine lv_aload_n C.1 C.2.1 dL_law_849 rfl (lv_at hl 2 rfl) ?_
                                    refine lv_aload_n C.1 C.2.1 dL_law_850 rfl (lv_at hl 3 rfl) ?_
                                    refine lv_iload_n C.1 C.2.1 dL_law_851 rfl (lv_at hl 0 rfl) ?_
                                    refine jr_iconst C dL_law_852 ?_
                                    refine jr_iadd C dL_law_853 ?_
                                    obtain ⟨g169, h⟩ := h
                                    refine jr_sld C ⟨hX, rfl, hLn, hXs⟩ hbl hbA B (jW_R _) g169 dL_law_854 ?_
                                    refine cl_X6_clearList C hl.1 B q_529 ⟨Nat.le_of_ble_eq_true rfl, Nat.le_of_ble_eq_true rfl⟩ ⟨Nat.le_of_ble_eq_true rfl, Nat.le_of_ble_eq_true rfl⟩ (Nat.le_of_ble_eq_true rfl) k_X (r_X (jW (x1 + 1))) h dL_law_855 (fun x170 M171 r_x170 _ _ h B => ?_)
                                    have o_M171 := B.2.2
                                    refine lv_aload_n C.1 C.2.1 dL_law_858 rfl (lv_at hl 1 rfl) ?_
                                    refine lv_aload_n C.1 C.2.1 dL_law_859 rfl (lv_at hl 3 rfl) ?_
                                    refine lv_iload_n C.1 C.2.1 dL_law_860 rfl (lv_at hl 0 rfl) ?_
                                    refine jr_iconst C dL_law_861 ?_
                                    refine jr_iadd C dL_law_862 ?_
                                    obtain ⟨g172, h⟩ := h
                                    refine jr_sld C ⟨hX, rfl, hLn, hXs⟩ hbl hbA B (jW_R _) g172 dL_law_863 ?_
                                    refine cl_X7_clearList C hl.1 B q_1033 ⟨Nat.le_of_ble_eq_true rfl, Nat.le_of_ble_eq_true rfl⟩ ⟨Nat.le_of_ble_eq_true rfl, Nat.le_of_ble_eq_true rfl⟩ (Nat.le_of_ble_eq_true rfl) k_Y (r_X (jW (x1 + 1))) h dL_law_864 (fun x173 M174 r_x173 _ _ h B => ?_)
                                    have o_M174 := B.2.2
                                    refine jr_icmp_eq (tgt := 1623) C r_x170 r_x173 h dL_law_867 (by decide) (fun hc867 h => ?_) (fun hc867 h => ?_)
                                    · refine jr_iinc (k := 0) (lv' := fun x175 => [(3, .int (jI x175)), (2, .ref (jD G 252)), (1, .ref (jD G 0)), (0, .ref b)]) C h hl rfl (by decide) (fun _ => rfl) dL_law_1623 (fun x175 h r_x175 ls hl => ?_)
                                      refine lv_goto (tgt := 18) C.1 C.2.1 dL_law_1626 (by decide) ?_
                                      exact ih18 _ _ _ _ _ _ hd h r_x175 B (lv_sub hl [0, 1, 2, 3] rfl)
                                    · refine jr_iconst C dL_law_870 ?_
                                      exact h.elim
                                  · rw [if_neg hs33_13] at h
                                    by_cases hs33_14 : (jAnd (X x1) 63) = 14
                                    · rw [if_pos hs33_14] at h
                                      refine jr_tableIn (v := 14) (off := 839) (tgt := 872) C (jAnd_R _ _) hs33_14 (by decide) (by decide) (by decide) dL_law_33 (by decide) ?_
                                      refine lv_aload_n C.1 C.2.1 dL_law_872 rfl (lv_at hl 2 rfl) ?_
                                      refine lv_aload_n C.1 C.2.1 dL_law_873 rfl (lv_at hl 3 rfl) ?_
                                      refine lv_iload_n C.1 C.2.1 dL_law_874 rfl (lv_at hl 0 rfl) ?_
                                      refine jr_iconst C dL_law_875 ?_
                                      refine jr_iadd C dL_law_876 ?_
                                      obtain ⟨g176, h⟩ := h
                                      refine jr_sld C ⟨hX, rfl, hLn, hXs⟩ hbl hbA B (jW_R _) g176 dL_law_877 ?_
                                      refine cl_X6_append C hl.1 B q_533 ⟨Nat.le_of_ble_eq_true rfl, Nat.le_of_ble_eq_true rfl⟩ ⟨Nat.le_of_ble_eq_true rfl, Nat.le_of_ble_eq_true rfl⟩ (Nat.le_of_ble_eq_true rfl) k_X (r_X (jW (x1 + 1))) h dL_law_878 (fun x177 M178 r_x177 _ _ h B => ?_)
                                      have o_M178 := B.2.2
                                      refine lv_aload_n C.1 C.2.1 dL_law_881 rfl (lv_at hl 1 rfl) ?_
                                      refine lv_aload_n C.1 C.2.1 dL_law_882 rfl (lv_at hl 3 rfl) ?_
                                      refine lv_iload_n C.1 C.2.1 dL_law_883 rfl (lv_at hl 0 rfl) ?_
                                      refine jr_iconst C dL_law_884 ?_
                                      refine jr_iadd C dL_law_885 ?_
                                      obtain ⟨g179, h⟩ := h
                                      refine jr_sld C ⟨hX, rfl, hLn, hXs⟩ hbl hbA B (jW_R _) g179 dL_law_886 ?_
                                      refine cl_X7_append C hl.1 B q_880 ⟨Nat.le_of_ble_eq_true rfl, Nat.le_of_ble_eq_true rfl⟩ ⟨Nat.le_of_ble_eq_true rfl, Nat.le_of_ble_eq_true rfl⟩ (Nat.le_of_ble_eq_true rfl) k_Y (r_X (jW (x1 + 1))) h dL_law_887 (fun x180 M181 r_x180 _ _ h B => ?_)
                                      have o_M181 := B.2.2
                                      refine jr_icmp_eq (tgt := 1623) C r_x177 r_x180 h dL_law_890 (by decide) (fun hc890 h => ?_) (fun hc890 h => ?_)
                                      · refine jr_iinc (k := 0) (lv' := fun x182 => [(3, .int (jI x182)), (2, .ref (jD G 252)), (1, .ref (jD G 0)), (0, .ref b)]) C h hl rfl (by decide) (fun _ => rfl) dL_law_1623 (fun x182 h r_x182 ls hl => ?_)
                                        refine lv_goto (tgt := 18) C.1 C.2.1 dL_law_1626 (by decide) ?_
                                        exact ih18 _ _ _ _ _ _ hd h r_x182 B (lv_sub hl [0, 1, 2, 3] rfl)
                                      · refine jr_iconst C dL_law_893 ?_
                                        exact h.elim
                                    · rw [if_neg hs33_14] at h
                                      by_cases hs33_15 : (jAnd (X x1) 63) = 15
                                      · rw [if_pos hs33_15] at h
                                        refine jr_tableIn (v := 15) (off := 862) (tgt := 895) C (jAnd_R _ _) hs33_15 (by decide) (by decide) (by decide) dL_law_33 (by decide) ?_
                                        refine lv_aload_n C.1 C.2.1 dL_law_895 rfl (lv_at hl 2 rfl) ?_
                                        refine cl_X6_clearText C hl.1 B q_541 ⟨Nat.le_of_ble_eq_true rfl, Nat.le_of_ble_eq_true rfl⟩ ⟨Nat.le_of_ble_eq_true rfl, Nat.le_of_ble_eq_true rfl⟩ (Nat.le_of_ble_eq_true rfl) k_X h dL_law_896 (fun x183 M184 r_x183 _ _ h B => ?_)
                                        have o_M184 := B.2.2
                                        refine lv_aload_n C.1 C.2.1 dL_law_899 rfl (lv_at hl 1 rfl) ?_
                                        refine cl_X7_clearText C hl.1 B q_884 ⟨Nat.le_of_ble_eq_true rfl, Nat.le_of_ble_eq_true rfl⟩ ⟨Nat.le_of_ble_eq_true rfl, Nat.le_of_ble_eq_true rfl⟩ (Nat.le_of_ble_eq_true rfl) k_Y h dL_law_900 (fun x185 M186 r_x185 _ _ h B => ?_)
                                        have o_M186 := B.2.2
                                        refine jr_icmp_eq (tgt := 1623) C r_x183 r_x185 h dL_law_903 (by decide) (fun hc903 h => ?_) (fun hc903 h => ?_)
                                        · refine jr_iinc (k := 0) (lv' := fun x187 => [(3, .int (jI x187)), (2, .ref (jD G 252)), (1, .ref (jD G 0)), (0, .ref b)]) C h hl rfl (by decide) (fun _ => rfl) dL_law_1623 (fun x187 h r_x187 ls hl => ?_)
                                          refine lv_goto (tgt := 18) C.1 C.2.1 dL_law_1626 (by decide) ?_
                                          exact ih18 _ _ _ _ _ _ hd h r_x187 B (lv_sub hl [0, 1, 2, 3] rfl)
                                        · refine jr_iconst C dL_law_906 ?_
                                          exact h.elim
                                      · rw [if_neg hs33_15] at h
                                        by_cases hs33_16 : (jAnd (X x1) 63) = 16
                                        · rw [if_pos hs33_16] at h
                                          refine jr_tableIn (v := 16) (off := 875) (tgt := 908) C (jAnd_R _ _) hs33_16 (by decide) (by decide) (by decide) dL_law_33 (by decide) ?_
                                          refine lv_aload_n C.1 C.2.1 dL_law_908 rfl (lv_at hl 2 rfl) ?_
                                          refine cl_X6_fault C hl.1 B q_545 ⟨Nat.le_of_ble_eq_true rfl, Nat.le_of_ble_eq_true rfl⟩ ⟨Nat.le_of_ble_eq_true rfl, Nat.le_of_ble_eq_true rfl⟩ (Nat.le_of_ble_eq_true rfl) k_X h dL_law_909 (fun x188 M189 r_x188 _ _ h B => ?_)
                                          have o_M189 := B.2.2
                                          refine lv_aload_n C.1 C.2.1 dL_law_912 rfl (lv_at hl 1 rfl) ?_
                                          refine cl_X7_fault C hl.1 B q_888 ⟨Nat.le_of_ble_eq_true rfl, Nat.le_of_ble_eq_true rfl⟩ ⟨Nat.le_of_ble_eq_true rfl, Nat.le_of_ble_eq_true rfl⟩ (Nat.le_of_ble_eq_true rfl) k_Y h dL_law_913 (fun x190 M191 r_x190 _ _ h B => ?_)
                                          have o_M191 := B.2.2
                                          refine jr_icmp_eq (tgt := 1623) C r_x188 r_x190 h dL_law_916 (by decide) (fun hc916 h => ?_) (fun hc916 h => ?_)
                                          · refine jr_iinc (k := 0) (lv' := fun x192 => [(3, .int (jI x192)), (2, .ref (jD G 252)), (1, .ref (jD G 0)), (0, .ref b)]) C h hl rfl (by decide) (fun _ => rfl) dL_law_1623 (fun x192 h r_x192 ls hl => ?_)
                                            refine lv_goto (tgt := 18) C.1 C.2.1 dL_law_1626 (by decide) ?_
                                            exact ih18 _ _ _ _ _ _ hd h r_x192 B (lv_sub hl [0, 1, 2, 3] rfl)
                                          · refine jr_iconst C dL_law_919 ?_
                                            exact h.elim
                                        · rw [if_neg hs33_16] at h
                                          by_cases hs33_17 : (jAnd (X x1) 63) = 17
                                          · rw [if_pos hs33_17] at h
                                            refine jr_tableIn (v := 17) (off := 888) (tgt := 921) C (jAnd_R _ _) hs33_17 (by decide) (by decide) (by decide) dL_law_33 (by decide) ?_
                                            refine lv_aload_n C.1 C.2.1 dL_law_921 rfl (lv_at hl 2 rfl) ?_
                                            refine lv_aload_n C.1 C.2.1 dL_law_922 rfl (lv_at hl 3 rfl) ?_
                                            refine lv_iload_n C.1 C.2.1 dL_law_923 rfl (lv_at hl 0 rfl) ?_
                                            refine jr_iconst C dL_law_924 ?_
                                            refine jr_iadd C dL_law_925 ?_
                                            obtain ⟨g193, h⟩ := h
                                            refine jr_sld C ⟨hX, rfl, hLn, hXs⟩ hbl hbA B (jW_R _) g193 dL_law_926 ?_
                                            refine cl_X6_print C hl.1 B q_549 ⟨Nat.le_of_ble_eq_true rfl, Nat.le_of_ble_eq_true rfl⟩ ⟨Nat.le_of_ble_eq_true rfl, Nat.le_of_ble_eq_true rfl⟩ (Nat.le_of_ble_eq_true rfl) k_X (r_X (jW (x1 + 1))) h dL_law_927 (fun x194 M195 r_x194 _ _ h B => ?_)
                                            have o_M195 := B.2.2
                                            refine lv_aload_n C.1 C.2.1 dL_law_930 rfl (lv_at hl 1 rfl) ?_
                                            refine lv_aload_n C.1 C.2.1 dL_law_931 rfl (lv_at hl 3 rfl) ?_
                                            refine lv_iload_n C.1 C.2.1 dL_law_932 rfl (lv_at hl 0 rfl) ?_
                                            refine jr_iconst C dL_law_933 ?_
                                            refine jr_iadd C dL_law_934 ?_
                                            obtain ⟨g196, h⟩ := h
                                            refine jr_sld C ⟨hX, rfl, hLn, hXs⟩ hbl hbA B (jW_R _) g196 dL_law_935 ?_
                                            refine cl_X7_print C hl.1 B q_922 ⟨Nat.le_of_ble_eq_true rfl, Nat.le_of_ble_eq_true rfl⟩ ⟨Nat.le_of_ble_eq_true rfl, Nat.le_of_ble_eq_true rfl⟩ (Nat.le_of_ble_eq_true rfl) k_Y (r_X (jW (x1 + 1))) h dL_law_936 (fun x197 M198 r_x197 _ _ h B => ?_)
                                            have o_M198 := B.2.2
                                            refine jr_icmp_eq (tgt := 1623) C r_x194 r_x197 h dL_law_939 (by decide) (fun hc939 h => ?_) (fun hc939 h => ?_)
                                            · refine jr_iinc (k := 0) (lv' := fun x199 => [(3, .int (jI x199)), (2, .ref (jD G 252)), (1, .ref (jD G 0)), (0, .ref b)]) C h hl rfl (by decide) (fun _ => rfl) dL_law_1623 (fun x199 h r_x199 ls hl => ?_)
                                              refine lv_goto (tgt := 18) C.1 C.2.1 dL_law_1626 (by decide) ?_
                                              exact ih18 _ _ _ _ _ _ hd h r_x199 B (lv_sub hl [0, 1, 2, 3] rfl)
                                            · refine jr_iconst C dL_law_942 ?_
                                              exact h.elim
                                          · rw [if_neg hs33_17] at h
                                            by_cases hs33_18 : (jAnd (X x1) 63) = 18
                                            · rw [if_pos hs33_18] at h
                                              refine jr_tableIn (v := 18) (off := 911) (tgt := 944) C (jAnd_R _ _) hs33_18 (by decide) (by decide) (by decide) dL_law_33 (by decide) ?_
                                              refine lv_aload_n C.1 C.2.1 dL_law_944 rfl (lv_at hl 2 rfl) ?_
                                              refine lv_aload_n C.1 C.2.1 dL_law_945 rfl (lv_at hl 3 rfl) ?_
                                              refine lv_iload_n C.1 C.2.1 dL_law_946 rfl (lv_at hl 0 rfl) ?_
                                              refine jr_iconst C dL_law_947 ?_
                                              refine jr_iadd C dL_law_948 ?_
                                              obtain ⟨g200, h⟩ := h
                                              refine jr_sld C ⟨hX, rfl, hLn, hXs⟩ hbl hbA B (jW_R _) g200 dL_law_949 ?_
                                              refine cl_X6_printed C hl.1 B q_563 ⟨Nat.le_of_ble_eq_true rfl, Nat.le_of_ble_eq_true rfl⟩ ⟨Nat.le_of_ble_eq_true rfl, Nat.le_of_ble_eq_true rfl⟩ (Nat.le_of_ble_eq_true rfl) k_X (r_X (jW (x1 + 1))) h dL_law_950 (fun x201 r_x201 _ _ h B => ?_)
                                              refine lv_aload_n C.1 C.2.1 dL_law_953 rfl (lv_at hl 1 rfl) ?_
                                              refine lv_aload_n C.1 C.2.1 dL_law_954 rfl (lv_at hl 3 rfl) ?_
                                              refine lv_iload_n C.1 C.2.1 dL_law_955 rfl (lv_at hl 0 rfl) ?_
                                              refine jr_iconst C dL_law_956 ?_
                                              refine jr_iadd C dL_law_957 ?_
                                              obtain ⟨g202, h⟩ := h
                                              refine jr_sld C ⟨hX, rfl, hLn, hXs⟩ hbl hbA B (jW_R _) g202 dL_law_958 ?_
                                              refine cl_X7_printed C hl.1 B q_938 ⟨Nat.le_of_ble_eq_true rfl, Nat.le_of_ble_eq_true rfl⟩ ⟨Nat.le_of_ble_eq_true rfl, Nat.le_of_ble_eq_true rfl⟩ (Nat.le_of_ble_eq_true rfl) k_Y (r_X (jW (x1 + 1))) h dL_law_959 (fun x203 r_x203 _ _ h B => ?_)
                                              refine jr_icmp_eq (tgt := 1623) C r_x201 r_x203 h dL_law_962 (by decide) (fun hc962 h => ?_) (fun hc962 h => ?_)
                                              · refine jr_iinc (k := 0) (lv' := fun x204 => [(3, .int (jI x204)), (2, .ref (jD G 252)), (1, .ref (jD G 0)), (0, .ref b)]) C h hl rfl (by decide) (fun _ => rfl) dL_law_1623 (fun x204 h r_x204 ls hl => ?_)
                                                refine lv_goto (tgt := 18) C.1 C.2.1 dL_law_1626 (by decide) ?_
                                                exact ih18 _ _ _ _ _ _ hd h r_x204 B (lv_sub hl [0, 1, 2, 3] rfl)
                                              · refine jr_iconst C dL_law_965 ?_
                                                exact h.elim
                                            · rw [if_neg hs33_18] at h
                                              by_cases hs33_19 : (jAnd (X x1) 63) = 19
                                              · rw [if_pos hs33_19] at h
                                                refine jr_tableIn (v := 19) (off := 934) (tgt := 967) C (jAnd_R _ _) hs33_19 (by decide) (by decide) (by decide) dL_law_33 (by decide) ?_
                                                refine lv_aload_n C.1 C.2.1 dL_law_967 rfl (lv_at hl 2 rfl) ?_
                                                refine cl_X6_undo C hl.1 B q_568 ⟨Nat.le_of_ble_eq_true rfl, Nat.le_of_ble_eq_true rfl⟩ ⟨Nat.le_of_ble_eq_true rfl, Nat.le_of_ble_eq_true rfl⟩ (Nat.le_of_ble_eq_true rfl) k_X h dL_law_968 (fun x205 M206 r_x205 _ _ h B => ?_)
                                                have o_M206 := B.2.2
                                                refine lv_aload_n C.1 C.2.1 dL_law_971 rfl (lv_at hl 1 rfl) ?_
                                                refine cl_X7_undo C hl.1 B q_942 ⟨Nat.le_of_ble_eq_true rfl, Nat.le_of_ble_eq_true rfl⟩ ⟨Nat.le_of_ble_eq_true rfl, Nat.le_of_ble_eq_true rfl⟩ (Nat.le_of_ble_eq_true rfl) k_Y h dL_law_972 (fun x207 M208 r_x207 _ _ h B => ?_)
                                                have o_M208 := B.2.2
                                                refine jr_icmp_eq (tgt := 1623) C r_x205 r_x207 h dL_law_975 (by decide) (fun hc975 h => ?_) (fun hc975 h => ?_)
                                                · refine jr_iinc (k := 0) (lv' := fun x209 => [(3, .int (jI x209)), (2, .ref (jD G 252)), (1, .ref (jD G 0)), (0, .ref b)]) C h hl rfl (by decide) (fun _ => rfl) dL_law_1623 (fun x209 h r_x209 ls hl => ?_)
                                                  refine lv_goto (tgt := 18) C.1 C.2.1 dL_law_1626 (by decide) ?_
                                                  exact ih18 _ _ _ _ _ _ hd h r_x209 B (lv_sub hl [0, 1, 2, 3] rfl)
                                                · refine jr_iconst C dL_law_978 ?_
                                                  exact h.elim
                                              · rw [if_neg hs33_19] at h
                                                by_cases hs33_20 : (jAnd (X x1) 63) = 20
                                                · rw [if_pos hs33_20] at h
                                                  refine jr_tableIn (v := 20) (off := 947) (tgt := 980) C (jAnd_R _ _) hs33_20 (by decide) (by decide) (by decide) dL_law_33 (by decide) ?_
                                                  refine lv_aload_n C.1 C.2.1 dL_law_980 rfl (lv_at hl 2 rfl) ?_
                                                  refine cl_X6_records C hl.1 B q_572 ⟨Nat.le_of_ble_eq_true rfl, Nat.le_of_ble_eq_true rfl⟩ ⟨Nat.le_of_ble_eq_true rfl, Nat.le_of_ble_eq_true rfl⟩ (Nat.le_of_ble_eq_true rfl) k_X h dL_law_981 (fun x210 r_x210 _ _ h B => ?_)
                                                  refine lv_aload_n C.1 C.2.1 dL_law_984 rfl (lv_at hl 1 rfl) ?_
                                                  refine cl_X7_records C hl.1 B q_1041 ⟨Nat.le_of_ble_eq_true rfl, Nat.le_of_ble_eq_true rfl⟩ ⟨Nat.le_of_ble_eq_true rfl, Nat.le_of_ble_eq_true rfl⟩ (Nat.le_of_ble_eq_true rfl) k_Y h dL_law_985 (fun x211 r_x211 _ _ h B => ?_)
                                                  refine jr_icmp_eq (tgt := 1623) C r_x210 r_x211 h dL_law_988 (by decide) (fun hc988 h => ?_) (fun hc988 h => ?_)
                                                  · refine jr_iinc (k := 0) (lv' := fun x212 => [(3, .int (jI x212)), (2, .ref (jD G 252)), (1, .ref (jD G 0)), (0, .ref b)]) C h hl rfl (by decide) (fun _ => rfl) dL_law_1623 (fun x212 h r_x212 ls hl => ?_)
                                                    refine lv_goto (tgt := 18) C.1 C.2.1 dL_law_1626 (by decide) ?_
                                                    exact ih18 _ _ _ _ _ _ hd h r_x212 B (lv_sub hl [0, 1, 2, 3] rfl)
                                                  · refine jr_iconst C dL_law_991 ?_
                                                    exact h.elim
                                                · rw [if_neg hs33_20] at h
                                                  by_cases hs33_21 : (jAnd (X x1) 63) = 21
                                                  · rw [if_pos hs33_21] at h
                                                    refine jr_tableIn (v := 21) (off := 960) (tgt := 993) C (jAnd_R _ _) hs33_21 (by decide) (by decide) (by decide) dL_law_33 (by decide) ?_
                                                    refine lv_aload_n C.1 C.2.1 dL_law_993 rfl (lv_at hl 2 rfl) ?_
                                                    refine lv_aload_n C.1 C.2.1 dL_law_994 rfl (lv_at hl 3 rfl) ?_
                                                    refine lv_iload_n C.1 C.2.1 dL_law_995 rfl (lv_at hl 0 rfl) ?_
                                                    refine jr_iconst C dL_law_996 ?_
                                                    refine jr_iadd C dL_law_997 ?_
                                                    obtain ⟨g213, h⟩ := h
                                                    refine jr_sld C ⟨hX, rfl, hLn, hXs⟩ hbl hbA B (jW_R _) g213 dL_law_998 ?_
                                                    refine cl_X6_recordAt C hl.1 B q_576 ⟨Nat.le_of_ble_eq_true rfl, Nat.le_of_ble_eq_true rfl⟩ ⟨Nat.le_of_ble_eq_true rfl, Nat.le_of_ble_eq_true rfl⟩ (Nat.le_of_ble_eq_true rfl) k_X (r_X (jW (x1 + 1))) h dL_law_999 (fun x214 r_x214 _ _ h B => ?_)
                                                    refine lv_aload_n C.1 C.2.1 dL_law_1002 rfl (lv_at hl 1 rfl) ?_
                                                    refine lv_aload_n C.1 C.2.1 dL_law_1003 rfl (lv_at hl 3 rfl) ?_
                                                    refine lv_iload_n C.1 C.2.1 dL_law_1004 rfl (lv_at hl 0 rfl) ?_
                                                    refine jr_iconst C dL_law_1005 ?_
                                                    refine jr_iadd C dL_law_1006 ?_
                                                    obtain ⟨g215, h⟩ := h
                                                    refine jr_sld C ⟨hX, rfl, hLn, hXs⟩ hbl hbA B (jW_R _) g215 dL_law_1007 ?_
                                                    refine cl_X7_recordAt C hl.1 B q_1045 ⟨Nat.le_of_ble_eq_true rfl, Nat.le_of_ble_eq_true rfl⟩ ⟨Nat.le_of_ble_eq_true rfl, Nat.le_of_ble_eq_true rfl⟩ (Nat.le_of_ble_eq_true rfl) k_Y (r_X (jW (x1 + 1))) h dL_law_1008 (fun x216 r_x216 _ _ h B => ?_)
                                                    refine jr_icmp_eq (tgt := 1623) C r_x214 r_x216 h dL_law_1011 (by decide) (fun hc1011 h => ?_) (fun hc1011 h => ?_)
                                                    · refine jr_iinc (k := 0) (lv' := fun x217 => [(3, .int (jI x217)), (2, .ref (jD G 252)), (1, .ref (jD G 0)), (0, .ref b)]) C h hl rfl (by decide) (fun _ => rfl) dL_law_1623 (fun x217 h r_x217 ls hl => ?_)
                                                      refine lv_goto (tgt := 18) C.1 C.2.1 dL_law_1626 (by decide) ?_
                                                      exact ih18 _ _ _ _ _ _ hd h r_x217 B (lv_sub hl [0, 1, 2, 3] rfl)
                                                    · refine jr_iconst C dL_law_1014 ?_
                                                      exact h.elim
                                                  · rw [if_neg hs33_21] at h
                                                    by_cases hs33_22 : (jAnd (X x1) 63) = 22
                                                    · rw [if_pos hs33_22] at h
                                                      refine jr_tableIn (v := 22) (off := 983) (tgt := 1016) C (jAnd_R _ _) hs33_22 (by decide) (by decide) (by decide) dL_law_33 (by decide) ?_
                                                      refine lv_aload_n C.1 C.2.1 dL_law_1016 rfl (lv_at hl 2 rfl) ?_
                                                      refine lv_aload_n C.1 C.2.1 dL_law_1017 rfl (lv_at hl 3 rfl) ?_
                                                      refine lv_iload_n C.1 C.2.1 dL_law_1018 rfl (lv_at hl 0 rfl) ?_
                                                      refine jr_iconst C dL_law_1019 ?_
                                                      refine jr_iadd C dL_law_1020 ?_
                                                      obtain ⟨g218, h⟩ := h
                                                      refine jr_sld C ⟨hX, rfl, hLn, hXs⟩ hbl hbA B (jW_R _) g218 dL_law_1021 ?_
                                                      refine cl_X6_locker C hl.1 B q_580 ⟨Nat.le_of_ble_eq_true rfl, Nat.le_of_ble_eq_true rfl⟩ ⟨Nat.le_of_ble_eq_true rfl, Nat.le_of_ble_eq_true rfl⟩ (Nat.le_of_ble_eq_true rfl) k_X (r_X (jW (x1 + 1))) h dL_law_1022 (fun x219 r_x219 _ _ h B => ?_)
                                                      refine lv_aload_n C.1 C.2.1 dL_law_1025 rfl (lv_at hl 1 rfl) ?_
                                                      refine lv_aload_n C.1 C.2.1 dL_law_1026 rfl (lv_at hl 3 rfl) ?_
                                                      refine lv_iload_n C.1 C.2.1 dL_law_1027 rfl (lv_at hl 0 rfl) ?_
                                                      refine jr_iconst C dL_law_1028 ?_
                                                      refine jr_iadd C dL_law_1029 ?_
                                                      obtain ⟨g220, h⟩ := h
                                                      refine jr_sld C ⟨hX, rfl, hLn, hXs⟩ hbl hbA B (jW_R _) g220 dL_law_1030 ?_
                                                      refine cl_X7_locker C hl.1 B q_1049 ⟨Nat.le_of_ble_eq_true rfl, Nat.le_of_ble_eq_true rfl⟩ ⟨Nat.le_of_ble_eq_true rfl, Nat.le_of_ble_eq_true rfl⟩ (Nat.le_of_ble_eq_true rfl) k_Y (r_X (jW (x1 + 1))) h dL_law_1031 (fun x221 r_x221 _ _ h B => ?_)
                                                      refine jr_icmp_eq (tgt := 1623) C r_x219 r_x221 h dL_law_1034 (by decide) (fun hc1034 h => ?_) (fun hc1034 h => ?_)
                                                      · refine jr_iinc (k := 0) (lv' := fun x222 => [(3, .int (jI x222)), (2, .ref (jD G 252)), (1, .ref (jD G 0)), (0, .ref b)]) C h hl rfl (by decide) (fun _ => rfl) dL_law_1623 (fun x222 h r_x222 ls hl => ?_)
                                                        refine lv_goto (tgt := 18) C.1 C.2.1 dL_law_1626 (by decide) ?_
                                                        exact ih18 _ _ _ _ _ _ hd h r_x222 B (lv_sub hl [0, 1, 2, 3] rfl)
                                                      · refine jr_iconst C dL_law_1037 ?_
                                                        exact h.elim
                                                    · rw [if_neg hs33_22] at h
                                                      by_cases hs33_23 : (jAnd (X x1) 63) = 23
                                                      · rw [if_pos hs33_23] at h
                                                        refine jr_tableIn (v := 23) (off := 1006) (tgt := 1039) C (jAnd_R _ _) hs33_23 (by decide) (by decide) (by decide) dL_law_33 (by decide) ?_
                                                        refine lv_aload_n C.1 C.2.1 dL_law_1039 rfl (lv_at hl 2 rfl) ?_
                                                        refine lv_aload_n C.1 C.2.1 dL_law_1040 rfl (lv_at hl 3 rfl) ?_
                                                        refine lv_iload_n C.1 C.2.1 dL_law_1041 rfl (lv_at hl 0 rfl) ?_
                                                        refine jr_iconst C dL_law_1042 ?_
                                                        refine jr_iadd C dL_law_1043 ?_
                                                        obtain ⟨g223, h⟩ := h
                                                        refine jr_sld C ⟨hX, rfl, hLn, hXs⟩ hbl hbA B (jW_R _) g223 dL_law_1044 ?_
                                                        refine lv_aload_n C.1 C.2.1 dL_law_1045 rfl (lv_at hl 3 rfl) ?_
                                                        refine lv_iload_n C.1 C.2.1 dL_law_1046 rfl (lv_at hl 0 rfl) ?_
                                                        refine jr_iconst C dL_law_1047 ?_
                                                        refine jr_iadd C dL_law_1048 ?_
                                                        obtain ⟨g224, h⟩ := h
                                                        refine jr_sld C ⟨hX, rfl, hLn, hXs⟩ hbl hbA B (jW_R _) g224 dL_law_1049 ?_
                                                        refine cl_X6_values C hl.1 B q_584 ⟨Nat.le_of_ble_eq_true rfl, Nat.le_of_ble_eq_true rfl⟩ ⟨Nat.le_of_ble_eq_true rfl, Nat.le_of_ble_eq_true rfl⟩ (Nat.le_of_ble_eq_true rfl) k_X (r_X (jW (x1 + 1))) (r_X (jW (x1 + 2))) h dL_law_1050 (fun x225 r_x225 _ _ h B => ?_)
                                                        refine lv_aload_n C.1 C.2.1 dL_law_1053 rfl (lv_at hl 1 rfl) ?_
                                                        refine lv_aload_n C.1 C.2.1 dL_law_1054 rfl (lv_at hl 3 rfl) ?_
                                                        refine lv_iload_n C.1 C.2.1 dL_law_1055 rfl (lv_at hl 0 rfl) ?_
                                                        refine jr_iconst C dL_law_1056 ?_
                                                        refine jr_iadd C dL_law_1057 ?_
                                                        obtain ⟨g226, h⟩ := h
                                                        refine jr_sld C ⟨hX, rfl, hLn, hXs⟩ hbl hbA B (jW_R _) g226 dL_law_1058 ?_
                                                        refine lv_aload_n C.1 C.2.1 dL_law_1059 rfl (lv_at hl 3 rfl) ?_
                                                        refine lv_iload_n C.1 C.2.1 dL_law_1060 rfl (lv_at hl 0 rfl) ?_
                                                        refine jr_iconst C dL_law_1061 ?_
                                                        refine jr_iadd C dL_law_1062 ?_
                                                        obtain ⟨g227, h⟩ := h
                                                        refine jr_sld C ⟨hX, rfl, hLn, hXs⟩ hbl hbA B (jW_R _) g227 dL_law_1063 ?_
                                                        refine cl_X7_values C hl.1 B q_1053 ⟨Nat.le_of_ble_eq_true rfl, Nat.le_of_ble_eq_true rfl⟩ ⟨Nat.le_of_ble_eq_true rfl, Nat.le_of_ble_eq_true rfl⟩ (Nat.le_of_ble_eq_true rfl) k_Y (r_X (jW (x1 + 1))) (r_X (jW (x1 + 2))) h dL_law_1064 (fun x228 r_x228 _ _ h B => ?_)
                                                        refine jr_icmp_eq (tgt := 1623) C r_x225 r_x228 h dL_law_1067 (by decide) (fun hc1067 h => ?_) (fun hc1067 h => ?_)
                                                        · refine jr_iinc (k := 0) (lv' := fun x229 => [(3, .int (jI x229)), (2, .ref (jD G 252)), (1, .ref (jD G 0)), (0, .ref b)]) C h hl rfl (by decide) (fun _ => rfl) dL_law_1623 (fun x229 h r_x229 ls hl => ?_)
                                                          refine lv_goto (tgt := 18) C.1 C.2.1 dL_law_1626 (by decide) ?_
                                                          exact ih18 _ _ _ _ _ _ hd h r_x229 B (lv_sub hl [0, 1, 2, 3] rfl)
                                                        · refine jr_iconst C dL_law_1070 ?_
                                                          exact h.elim
                                                      · rw [if_neg hs33_23] at h
                                                        by_cases hs33_24 : (jAnd (X x1) 63) = 24
                                                        · rw [if_pos hs33_24] at h
                                                          refine jr_tableIn (v := 24) (off := 1039) (tgt := 1072) C (jAnd_R _ _) hs33_24 (by decide) (by decide) (by decide) dL_law_33 (by decide) ?_
                                                          refine lv_aload_n C.1 C.2.1 dL_law_1072 rfl (lv_at hl 2 rfl) ?_
                                                          refine lv_aload_n C.1 C.2.1 dL_law_1073 rfl (lv_at hl 3 rfl) ?_
                                                          refine lv_iload_n C.1 C.2.1 dL_law_1074 rfl (lv_at hl 0 rfl) ?_
                                                          refine jr_iconst C dL_law_1075 ?_
                                                          refine jr_iadd C dL_law_1076 ?_
                                                          obtain ⟨g230, h⟩ := h
                                                          refine jr_sld C ⟨hX, rfl, hLn, hXs⟩ hbl hbA B (jW_R _) g230 dL_law_1077 ?_
                                                          refine lv_aload_n C.1 C.2.1 dL_law_1078 rfl (lv_at hl 3 rfl) ?_
                                                          refine lv_iload_n C.1 C.2.1 dL_law_1079 rfl (lv_at hl 0 rfl) ?_
                                                          refine jr_iconst C dL_law_1080 ?_
                                                          refine jr_iadd C dL_law_1081 ?_
                                                          obtain ⟨g231, h⟩ := h
                                                          refine jr_sld C ⟨hX, rfl, hLn, hXs⟩ hbl hbA B (jW_R _) g231 dL_law_1082 ?_
                                                          refine lv_aload_n C.1 C.2.1 dL_law_1083 rfl (lv_at hl 3 rfl) ?_
                                                          refine lv_iload_n C.1 C.2.1 dL_law_1084 rfl (lv_at hl 0 rfl) ?_
                                                          refine jr_iconst C dL_law_1085 ?_
                                                          refine jr_iadd C dL_law_1086 ?_
                                                          obtain ⟨g232, h⟩ := h
                                                          refine jr_sld C ⟨hX, rfl, hLn, hXs⟩ hbl hbA B (jW_R _) g232 dL_law_1087 ?_
                                                          refine cl_X6_subvalues C hl.1 B q_588 ⟨Nat.le_of_ble_eq_true rfl, Nat.le_of_ble_eq_true rfl⟩ ⟨Nat.le_of_ble_eq_true rfl, Nat.le_of_ble_eq_true rfl⟩ (Nat.le_of_ble_eq_true rfl) k_X (r_X (jW (x1 + 1))) (r_X (jW (x1 + 2))) (r_X (jW (x1 + 3))) h dL_law_1088 (fun x233 r_x233 _ _ h B => ?_)
                                                          refine lv_aload_n C.1 C.2.1 dL_law_1091 rfl (lv_at hl 1 rfl) ?_
                                                          refine lv_aload_n C.1 C.2.1 dL_law_1092 rfl (lv_at hl 3 rfl) ?_
                                                          refine lv_iload_n C.1 C.2.1 dL_law_1093 rfl (lv_at hl 0 rfl) ?_
                                                          refine jr_iconst C dL_law_1094 ?_
                                                          refine jr_iadd C dL_law_1095 ?_
                                                          obtain ⟨g234, h⟩ := h
                                                          refine jr_sld C ⟨hX, rfl, hLn, hXs⟩ hbl hbA B (jW_R _) g234 dL_law_1096 ?_
                                                          refine lv_aload_n C.1 C.2.1 dL_law_1097 rfl (lv_at hl 3 rfl) ?_
                                                          refine lv_iload_n C.1 C.2.1 dL_law_1098 rfl (lv_at hl 0 rfl) ?_
                                                          refine jr_iconst C dL_law_1099 ?_
                                                          refine jr_iadd C dL_law_1100 ?_
                                                          obtain ⟨g235, h⟩ := h
                                                          refine jr_sld C ⟨hX, rfl, hLn, hXs⟩ hbl hbA B (jW_R _) g235 dL_law_1101 ?_
                                                          refine lv_aload_n C.1 C.2.1 dL_law_1102 rfl (lv_at hl 3 rfl) ?_
                                                          refine lv_iload_n C.1 C.2.1 dL_law_1103 rfl (lv_at hl 0 rfl) ?_
                                                          refine jr_iconst C dL_law_1104 ?_
                                                          refine jr_iadd C dL_law_1105 ?_
                                                          obtain ⟨g236, h⟩ := h
                                                          refine jr_sld C ⟨hX, rfl, hLn, hXs⟩ hbl hbA B (jW_R _) g236 dL_law_1106 ?_
                                                          refine cl_X7_subvalues C hl.1 B q_1057 ⟨Nat.le_of_ble_eq_true rfl, Nat.le_of_ble_eq_true rfl⟩ ⟨Nat.le_of_ble_eq_true rfl, Nat.le_of_ble_eq_true rfl⟩ (Nat.le_of_ble_eq_true rfl) k_Y (r_X (jW (x1 + 1))) (r_X (jW (x1 + 2))) (r_X (jW (x1 + 3))) h dL_law_1107 (fun x237 r_x237 _ _ h B => ?_)
                                                          refine jr_icmp_eq (tgt := 1623) C r_x233 r_x237 h dL_law_1110 (by decide) (fun hc1110 h => ?_) (fun hc1110 h => ?_)
                                                          · refine jr_iinc (k := 0) (lv' := fun x238 => [(3, .int (jI x238)), (2, .ref (jD G 252)), (1, .ref (jD G 0)), (0, .ref b)]) C h hl rfl (by decide) (fun _ => rfl) dL_law_1623 (fun x238 h r_x238 ls hl => ?_)
                                                            refine lv_goto (tgt := 18) C.1 C.2.1 dL_law_1626 (by decide) ?_
                                                            exact ih18 _ _ _ _ _ _ hd h r_x238 B (lv_sub hl [0, 1, 2, 3] rfl)
                                                          · refine jr_iconst C dL_law_1113 ?_
                                                            exact h.elim
                                                        · rw [if_neg hs33_24] at h
                                                          by_cases hs33_25 : (jAnd (X x1) 63) = 25
                                                          · rw [if_pos hs33_25] at h
                                                            refine jr_tableIn (v := 25) (off := 1082) (tgt := 1115) C (jAnd_R _ _) hs33_25 (by decide) (by decide) (by decide) dL_law_33 (by decide) ?_
                                                            refine lv_aload_n C.1 C.2.1 dL_law_1115 rfl (lv_at hl 2 rfl) ?_
                                                            refine lv_aload_n C.1 C.2.1 dL_law_1116 rfl (lv_at hl 3 rfl) ?_
                                                            refine lv_iload_n C.1 C.2.1 dL_law_1117 rfl (lv_at hl 0 rfl) ?_
                                                            refine jr_iconst C dL_law_1118 ?_
                                                            refine jr_iadd C dL_law_1119 ?_
                                                            obtain ⟨g239, h⟩ := h
                                                            refine jr_sld C ⟨hX, rfl, hLn, hXs⟩ hbl hbA B (jW_R _) g239 dL_law_1120 ?_
                                                            refine lv_aload_n C.1 C.2.1 dL_law_1121 rfl (lv_at hl 3 rfl) ?_
                                                            refine lv_iload_n C.1 C.2.1 dL_law_1122 rfl (lv_at hl 0 rfl) ?_
                                                            refine jr_iconst C dL_law_1123 ?_
                                                            refine jr_iadd C dL_law_1124 ?_
                                                            obtain ⟨g240, h⟩ := h
                                                            refine jr_sld C ⟨hX, rfl, hLn, hXs⟩ hbl hbA B (jW_R _) g240 dL_law_1125 ?_
                                                            refine lv_aload_n C.1 C.2.1 dL_law_1126 rfl (lv_at hl 3 rfl) ?_
                                                            refine lv_iload_n C.1 C.2.1 dL_law_1127 rfl (lv_at hl 0 rfl) ?_
                                                            refine jr_iconst C dL_law_1128 ?_
                                                            refine jr_iadd C dL_law_1129 ?_
                                                            obtain ⟨g241, h⟩ := h
                                                            refine jr_sld C ⟨hX, rfl, hLn, hXs⟩ hbl hbA B (jW_R _) g241 dL_law_1130 ?_
                                                            refine lv_aload_n C.1 C.2.1 dL_law_1131 rfl (lv_at hl 3 rfl) ?_
                                                            refine lv_iload_n C.1 C.2.1 dL_law_1132 rfl (lv_at hl 0 rfl) ?_
                                                            refine jr_iconst C dL_law_1133 ?_
                                                            refine jr_iadd C dL_law_1134 ?_
                                                            obtain ⟨g242, h⟩ := h
                                                            refine jr_sld C ⟨hX, rfl, hLn, hXs⟩ hbl hbA B (jW_R _) g242 dL_law_1135 ?_
                                                            refine cl_X6_get C hl.1 B q_592 ⟨Nat.le_of_ble_eq_true rfl, Nat.le_of_ble_eq_true rfl⟩ ⟨Nat.le_of_ble_eq_true rfl, Nat.le_of_ble_eq_true rfl⟩ (Nat.le_of_ble_eq_true rfl) k_X (r_X (jW (x1 + 1))) (r_X (jW (x1 + 2))) (r_X (jW (x1 + 3))) (r_X (jW (x1 + 4))) h dL_law_1136 (fun x243 r_x243 _ _ h B => ?_)
                                                            refine lv_aload_n C.1 C.2.1 dL_law_1139 rfl (lv_at hl 1 rfl) ?_
                                                            refine lv_aload_n C.1 C.2.1 dL_law_1140 rfl (lv_at hl 3 rfl) ?_
                                                            refine lv_iload_n C.1 C.2.1 dL_law_1141 rfl (lv_at hl 0 rfl) ?_
                                                            refine jr_iconst C dL_law_1142 ?_
                                                            refine jr_iadd C dL_law_1143 ?_
                                                            obtain ⟨g244, h⟩ := h
                                                            refine jr_sld C ⟨hX, rfl, hLn, hXs⟩ hbl hbA B (jW_R _) g244 dL_law_1144 ?_
                                                            refine lv_aload_n C.1 C.2.1 dL_law_1145 rfl (lv_at hl 3 rfl) ?_
                                                            refine lv_iload_n C.1 C.2.1 dL_law_1146 rfl (lv_at hl 0 rfl) ?_
                                                            refine jr_iconst C dL_law_1147 ?_
                                                            refine jr_iadd C dL_law_1148 ?_
                                                            obtain ⟨g245, h⟩ := h
                                                            refine jr_sld C ⟨hX, rfl, hLn, hXs⟩ hbl hbA B (jW_R _) g245 dL_law_1149 ?_
                                                            refine lv_aload_n C.1 C.2.1 dL_law_1150 rfl (lv_at hl 3 rfl) ?_
                                                            refine lv_iload_n C.1 C.2.1 dL_law_1151 rfl (lv_at hl 0 rfl) ?_
                                                            refine jr_iconst C dL_law_1152 ?_
                                                            refine jr_iadd C dL_law_1153 ?_
                                                            obtain ⟨g246, h⟩ := h
                                                            refine jr_sld C ⟨hX, rfl, hLn, hXs⟩ hbl hbA B (jW_R _) g246 dL_law_1154 ?_
                                                            refine lv_aload_n C.1 C.2.1 dL_law_1155 rfl (lv_at hl 3 rfl) ?_
                                                            refine lv_iload_n C.1 C.2.1 dL_law_1156 rfl (lv_at hl 0 rfl) ?_
                                                            refine jr_iconst C dL_law_1157 ?_
                                                            refine jr_iadd C dL_law_1158 ?_
                                                            obtain ⟨g247, h⟩ := h
                                                            refine jr_sld C ⟨hX, rfl, hLn, hXs⟩ hbl hbA B (jW_R _) g247 dL_law_1159 ?_
                                                            refine cl_X7_get C hl.1 B q_1061 ⟨Nat.le_of_ble_eq_true rfl, Nat.le_of_ble_eq_true rfl⟩ ⟨Nat.le_of_ble_eq_true rfl, Nat.le_of_ble_eq_true rfl⟩ (Nat.le_of_ble_eq_true rfl) k_Y (r_X (jW (x1 + 1))) (r_X (jW (x1 + 2))) (r_X (jW (x1 + 3))) (r_X (jW (x1 + 4))) h dL_law_1160 (fun x248 r_x248 _ _ h B => ?_)
                                                            refine jr_icmp_eq (tgt := 1623) C r_x243 r_x248 h dL_law_1163 (by decide) (fun hc1163 h => ?_) (fun hc1163 h => ?_)
                                                            · refine jr_iinc (k := 0) (lv' := fun x249 => [(3, .int (jI x249)), (2, .ref (jD G 252)), (1, .ref (jD G 0)), (0, .ref b)]) C h hl rfl (by decide) (fun _ => rfl) dL_law_1623 (fun x249 h r_x249 ls hl => ?_)
                                                              refine lv_goto (tgt := 18) C.1 C.2.1 dL_law_1626 (by decide) ?_
                                                              exact ih18 _ _ _ _ _ _ hd h r_x249 B (lv_sub hl [0, 1, 2, 3] rfl)
                                                            · refine jr_iconst C dL_law_1166 ?_
                                                              exact h.elim
                                                          · rw [if_neg hs33_25] at h
                                                            by_cases hs33_26 : (jAnd (X x1) 63) = 26
                                                            · rw [if_pos hs33_26] at h
                                                              refine jr_tableIn (v := 26) (off := 1135) (tgt := 1168) C (jAnd_R _ _) hs33_26 (by decide) (by decide) (by decide) dL_law_33 (by decide) ?_
                                                              refine lv_aload_n C.1 C.2.1 dL_law_1168 rfl (lv_at hl 2 rfl) ?_
                                                              refine lv_aload_n C.1 C.2.1 dL_law_1169 rfl (lv_at hl 3 rfl) ?_
                                                              refine lv_iload_n C.1 C.2.1 dL_law_1170 rfl (lv_at hl 0 rfl) ?_
                                                              refine jr_iconst C dL_law_1171 ?_
                                                              refine jr_iadd C dL_law_1172 ?_
                                                              obtain ⟨g250, h⟩ := h
                                                              refine jr_sld C ⟨hX, rfl, hLn, hXs⟩ hbl hbA B (jW_R _) g250 dL_law_1173 ?_
                                                              refine cl_X6_lines C hl.1 B q_596 ⟨Nat.le_of_ble_eq_true rfl, Nat.le_of_ble_eq_true rfl⟩ ⟨Nat.le_of_ble_eq_true rfl, Nat.le_of_ble_eq_true rfl⟩ (Nat.le_of_ble_eq_true rfl) k_X (r_X (jW (x1 + 1))) h dL_law_1174 (fun x251 r_x251 _ _ h B => ?_)
                                                              refine lv_aload_n C.1 C.2.1 dL_law_1177 rfl (lv_at hl 1 rfl) ?_
                                                              refine lv_aload_n C.1 C.2.1 dL_law_1178 rfl (lv_at hl 3 rfl) ?_
                                                              refine lv_iload_n C.1 C.2.1 dL_law_1179 rfl (lv_at hl 0 rfl) ?_
                                                              refine jr_iconst C dL_law_1180 ?_
                                                              refine jr_iadd C dL_law_1181 ?_
                                                              obtain ⟨g252, h⟩ := h
                                                              refine jr_sld C ⟨hX, rfl, hLn, hXs⟩ hbl hbA B (jW_R _) g252 dL_law_1182 ?_
                                                              refine cl_X7_lines C hl.1 B q_1065 ⟨Nat.le_of_ble_eq_true rfl, Nat.le_of_ble_eq_true rfl⟩ ⟨Nat.le_of_ble_eq_true rfl, Nat.le_of_ble_eq_true rfl⟩ (Nat.le_of_ble_eq_true rfl) k_Y (r_X (jW (x1 + 1))) h dL_law_1183 (fun x253 r_x253 _ _ h B => ?_)
                                                              refine jr_icmp_eq (tgt := 1623) C r_x251 r_x253 h dL_law_1186 (by decide) (fun hc1186 h => ?_) (fun hc1186 h => ?_)
                                                              · refine jr_iinc (k := 0) (lv' := fun x254 => [(3, .int (jI x254)), (2, .ref (jD G 252)), (1, .ref (jD G 0)), (0, .ref b)]) C h hl rfl (by decide) (fun _ => rfl) dL_law_1623 (fun x254 h r_x254 ls hl => ?_)
                                                                refine lv_goto (tgt := 18) C.1 C.2.1 dL_law_1626 (by decide) ?_
                                                                exact ih18 _ _ _ _ _ _ hd h r_x254 B (lv_sub hl [0, 1, 2, 3] rfl)
                                                              · refine jr_iconst C dL_law_1189 ?_
                                                                exact h.elim
                                                            · rw [if_neg hs33_26] at h
                                                              by_cases hs33_27 : (jAnd (X x1) 63) = 27
                                                              · rw [if_pos hs33_27] at h
                                                                refine jr_tableIn (v := 27) (off := 1158) (tgt := 1191) C (jAnd_R _ _) hs33_27 (by decide) (by decide) (by decide) dL_law_33 (by decide) ?_
                                                                refine lv_aload_n C.1 C.2.1 dL_law_1191 rfl (lv_at hl 2 rfl) ?_
                                                                refine lv_aload_n C.1 C.2.1 dL_law_1192 rfl (lv_at hl 3 rfl) ?_
                                                                refine lv_iload_n C.1 C.2.1 dL_law_1193 rfl (lv_at hl 0 rfl) ?_
                                                                refine jr_iconst C dL_law_1194 ?_
                                                                refine jr_iadd C dL_law_1195 ?_
                                                                obtain ⟨g255, h⟩ := h
                                                                refine jr_sld C ⟨hX, rfl, hLn, hXs⟩ hbl hbA B (jW_R _) g255 dL_law_1196 ?_
                                                                refine lv_aload_n C.1 C.2.1 dL_law_1197 rfl (lv_at hl 3 rfl) ?_
                                                                refine lv_iload_n C.1 C.2.1 dL_law_1198 rfl (lv_at hl 0 rfl) ?_
                                                                refine jr_iconst C dL_law_1199 ?_
                                                                refine jr_iadd C dL_law_1200 ?_
                                                                obtain ⟨g256, h⟩ := h
                                                                refine jr_sld C ⟨hX, rfl, hLn, hXs⟩ hbl hbA B (jW_R _) g256 dL_law_1201 ?_
                                                                refine lv_aload_n C.1 C.2.1 dL_law_1202 rfl (lv_at hl 3 rfl) ?_
                                                                refine lv_iload_n C.1 C.2.1 dL_law_1203 rfl (lv_at hl 0 rfl) ?_
                                                                refine jr_iconst C dL_law_1204 ?_
                                                                refine jr_iadd C dL_law_1205 ?_
                                                                obtain ⟨g257, h⟩ := h
                                                                refine jr_sld C ⟨hX, rfl, hLn, hXs⟩ hbl hbA B (jW_R _) g257 dL_law_1206 ?_
                                                                refine cl_X6_locate C hl.1 B q_600 ⟨Nat.le_of_ble_eq_true rfl, Nat.le_of_ble_eq_true rfl⟩ ⟨Nat.le_of_ble_eq_true rfl, Nat.le_of_ble_eq_true rfl⟩ (Nat.le_of_ble_eq_true rfl) k_X (r_X (jW (x1 + 1))) (r_X (jW (x1 + 2))) (r_X (jW (x1 + 3))) h dL_law_1207 (fun x258 r_x258 _ _ h B => ?_)
                                                                refine lv_aload_n C.1 C.2.1 dL_law_1210 rfl (lv_at hl 1 rfl) ?_
                                                                refine lv_aload_n C.1 C.2.1 dL_law_1211 rfl (lv_at hl 3 rfl) ?_
                                                                refine lv_iload_n C.1 C.2.1 dL_law_1212 rfl (lv_at hl 0 rfl) ?_
                                                                refine jr_iconst C dL_law_1213 ?_
                                                                refine jr_iadd C dL_law_1214 ?_
                                                                obtain ⟨g259, h⟩ := h
                                                                refine jr_sld C ⟨hX, rfl, hLn, hXs⟩ hbl hbA B (jW_R _) g259 dL_law_1215 ?_
                                                                refine lv_aload_n C.1 C.2.1 dL_law_1216 rfl (lv_at hl 3 rfl) ?_
                                                                refine lv_iload_n C.1 C.2.1 dL_law_1217 rfl (lv_at hl 0 rfl) ?_
                                                                refine jr_iconst C dL_law_1218 ?_
                                                                refine jr_iadd C dL_law_1219 ?_
                                                                obtain ⟨g260, h⟩ := h
                                                                refine jr_sld C ⟨hX, rfl, hLn, hXs⟩ hbl hbA B (jW_R _) g260 dL_law_1220 ?_
                                                                refine lv_aload_n C.1 C.2.1 dL_law_1221 rfl (lv_at hl 3 rfl) ?_
                                                                refine lv_iload_n C.1 C.2.1 dL_law_1222 rfl (lv_at hl 0 rfl) ?_
                                                                refine jr_iconst C dL_law_1223 ?_
                                                                refine jr_iadd C dL_law_1224 ?_
                                                                obtain ⟨g261, h⟩ := h
                                                                refine jr_sld C ⟨hX, rfl, hLn, hXs⟩ hbl hbA B (jW_R _) g261 dL_law_1225 ?_
                                                                refine cl_X7_locate C hl.1 B q_1069 ⟨Nat.le_of_ble_eq_true rfl, Nat.le_of_ble_eq_true rfl⟩ ⟨Nat.le_of_ble_eq_true rfl, Nat.le_of_ble_eq_true rfl⟩ (Nat.le_of_ble_eq_true rfl) k_Y (r_X (jW (x1 + 1))) (r_X (jW (x1 + 2))) (r_X (jW (x1 + 3))) h dL_law_1226 (fun x262 r_x262 _ _ h B => ?_)
                                                                refine jr_icmp_eq (tgt := 1623) C r_x258 r_x262 h dL_law_1229 (by decide) (fun hc1229 h => ?_) (fun hc1229 h => ?_)
                                                                · refine jr_iinc (k := 0) (lv' := fun x263 => [(3, .int (jI x263)), (2, .ref (jD G 252)), (1, .ref (jD G 0)), (0, .ref b)]) C h hl rfl (by decide) (fun _ => rfl) dL_law_1623 (fun x263 h r_x263 ls hl => ?_)
                                                                  refine lv_goto (tgt := 18) C.1 C.2.1 dL_law_1626 (by decide) ?_
                                                                  exact ih18 _ _ _ _ _ _ hd h r_x263 B (lv_sub hl [0, 1, 2, 3] rfl)
                                                                · refine jr_iconst C dL_law_1232 ?_
                                                                  exact h.elim
                                                              · rw [if_neg hs33_27] at h
                                                                by_cases hs33_28 : (jAnd (X x1) 63) = 28
                                                                · rw [if_pos hs33_28] at h
                                                                  refine jr_tableIn (v := 28) (off := 1201) (tgt := 1234) C (jAnd_R _ _) hs33_28 (by decide) (by decide) (by decide) dL_law_33 (by decide) ?_
                                                                  refine lv_aload_n C.1 C.2.1 dL_law_1234 rfl (lv_at hl 2 rfl) ?_
                                                                  refine lv_aload_n C.1 C.2.1 dL_law_1235 rfl (lv_at hl 3 rfl) ?_
                                                                  refine lv_iload_n C.1 C.2.1 dL_law_1236 rfl (lv_at hl 0 rfl) ?_
                                                                  refine jr_iconst C dL_law_1237 ?_
                                                                  refine jr_iadd C dL_law_1238 ?_
                                                                  obtain ⟨g264, h⟩ := h
                                                                  refine jr_sld C ⟨hX, rfl, hLn, hXs⟩ hbl hbA B (jW_R _) g264 dL_law_1239 ?_
                                                                  refine lv_aload_n C.1 C.2.1 dL_law_1240 rfl (lv_at hl 3 rfl) ?_
                                                                  refine lv_iload_n C.1 C.2.1 dL_law_1241 rfl (lv_at hl 0 rfl) ?_
                                                                  refine jr_iconst C dL_law_1242 ?_
                                                                  refine jr_iadd C dL_law_1243 ?_
                                                                  obtain ⟨g265, h⟩ := h
                                                                  refine jr_sld C ⟨hX, rfl, hLn, hXs⟩ hbl hbA B (jW_R _) g265 dL_law_1244 ?_
                                                                  refine cl_X6_column C hl.1 B q_604 ⟨Nat.le_of_ble_eq_true rfl, Nat.le_of_ble_eq_true rfl⟩ ⟨Nat.le_of_ble_eq_true rfl, Nat.le_of_ble_eq_true rfl⟩ (Nat.le_of_ble_eq_true rfl) k_X (r_X (jW (x1 + 1))) (r_X (jW (x1 + 2))) h dL_law_1245 (fun x266 r_x266 _ _ h B => ?_)
                                                                  refine lv_aload_n C.1 C.2.1 dL_law_1248 rfl (lv_at hl 1 rfl) ?_
                                                                  refine lv_aload_n C.1 C.2.1 dL_law_1249 rfl (lv_at hl 3 rfl) ?_
                                                                  refine lv_iload_n C.1 C.2.1 dL_law_1250 rfl (lv_at hl 0 rfl) ?_
                                                                  refine jr_iconst C dL_law_1251 ?_
                                                                  refine jr_iadd C dL_law_1252 ?_
                                                                  obtain ⟨g267, h⟩ := h
                                                                  refine jr_sld C ⟨hX, rfl, hLn, hXs⟩ hbl hbA B (jW_R _) g267 dL_law_1253 ?_
                                                                  refine lv_aload_n C.1 C.2.1 dL_law_1254 rfl (lv_at hl 3 rfl) ?_
                                                                  refine lv_iload_n C.1 C.2.1 dL_law_1255 rfl (lv_at hl 0 rfl) ?_
                                                                  refine jr_iconst C dL_law_1256 ?_
                                                                  refine jr_iadd C dL_law_1257 ?_
                                                                  obtain ⟨g268, h⟩ := h
                                                                  refine jr_sld C ⟨hX, rfl, hLn, hXs⟩ hbl hbA B (jW_R _) g268 dL_law_1258 ?_
                                                                  refine cl_X7_column C hl.1 B q_1073 ⟨Nat.le_of_ble_eq_true rfl, Nat.le_of_ble_eq_true rfl⟩ ⟨Nat.le_of_ble_eq_true rfl, Nat.le_of_ble_eq_true rfl⟩ (Nat.le_of_ble_eq_true rfl) k_Y (r_X (jW (x1 + 1))) (r_X (jW (x1 + 2))) h dL_law_1259 (fun x269 r_x269 _ _ h B => ?_)
                                                                  refine jr_icmp_eq (tgt := 1623) C r_x266 r_x269 h dL_law_1262 (by decide) (fun hc1262 h => ?_) (fun hc1262 h => ?_)
                                                                  · refine jr_iinc (k := 0) (lv' := fun x270 => [(3, .int (jI x270)), (2, .ref (jD G 252)), (1, .ref (jD G 0)), (0, .ref b)]) C h hl rfl (by decide) (fun _ => rfl) dL_law_1623 (fun x270 h r_x270 ls hl => ?_)
                                                                    refine lv_goto (tgt := 18) C.1 C.2.1 dL_law_1626 (by decide) ?_
                                                                    exact ih18 _ _ _ _ _ _ hd h r_x270 B (lv_sub hl [0, 1, 2, 3] rfl)
                                                                  · refine jr_iconst C dL_law_1265 ?_
                                                                    exact h.elim
                                                                · rw [if_neg hs33_28] at h
                                                                  by_cases hs33_29 : (jAnd (X x1) 63) = 29
                                                                  · rw [if_pos hs33_29] at h
                                                                    refine jr_tableIn (v := 29) (off := 1234) (tgt := 1267) C (jAnd_R _ _) hs33_29 (by decide) (by decide) (by decide) dL_law_33 (by decide) ?_
                                                                    refine lv_aload_n C.1 C.2.1 dL_law_1267 rfl (lv_at hl 2 rfl) ?_
                                                                    refine lv_aload_n C.1 C.2.1 dL_law_1268 rfl (lv_at hl 3 rfl) ?_
                                                                    refine lv_iload_n C.1 C.2.1 dL_law_1269 rfl (lv_at hl 0 rfl) ?_
                                                                    refine jr_iconst C dL_law_1270 ?_
                                                                    refine jr_iadd C dL_law_1271 ?_
                                                                    obtain ⟨g271, h⟩ := h
                                                                    refine jr_sld C ⟨hX, rfl, hLn, hXs⟩ hbl hbA B (jW_R _) g271 dL_law_1272 ?_
                                                                    refine cl_X6_associated C hl.1 B q_608 ⟨Nat.le_of_ble_eq_true rfl, Nat.le_of_ble_eq_true rfl⟩ ⟨Nat.le_of_ble_eq_true rfl, Nat.le_of_ble_eq_true rfl⟩ (Nat.le_of_ble_eq_true rfl) k_X (r_X (jW (x1 + 1))) h dL_law_1273 (fun x272 r_x272 _ _ h B => ?_)
                                                                    refine lv_aload_n C.1 C.2.1 dL_law_1276 rfl (lv_at hl 1 rfl) ?_
                                                                    refine lv_aload_n C.1 C.2.1 dL_law_1277 rfl (lv_at hl 3 rfl) ?_
                                                                    refine lv_iload_n C.1 C.2.1 dL_law_1278 rfl (lv_at hl 0 rfl) ?_
                                                                    refine jr_iconst C dL_law_1279 ?_
                                                                    refine jr_iadd C dL_law_1280 ?_
                                                                    obtain ⟨g273, h⟩ := h
                                                                    refine jr_sld C ⟨hX, rfl, hLn, hXs⟩ hbl hbA B (jW_R _) g273 dL_law_1281 ?_
                                                                    refine cl_X7_associated C hl.1 B q_1077 ⟨Nat.le_of_ble_eq_true rfl, Nat.le_of_ble_eq_true rfl⟩ ⟨Nat.le_of_ble_eq_true rfl, Nat.le_of_ble_eq_true rfl⟩ (Nat.le_of_ble_eq_true rfl) k_Y (r_X (jW (x1 + 1))) h dL_law_1282 (fun x274 r_x274 _ _ h B => ?_)
                                                                    refine jr_icmp_eq (tgt := 1623) C r_x272 r_x274 h dL_law_1285 (by decide) (fun hc1285 h => ?_) (fun hc1285 h => ?_)
                                                                    · refine jr_iinc (k := 0) (lv' := fun x275 => [(3, .int (jI x275)), (2, .ref (jD G 252)), (1, .ref (jD G 0)), (0, .ref b)]) C h hl rfl (by decide) (fun _ => rfl) dL_law_1623 (fun x275 h r_x275 ls hl => ?_)
                                                                      refine lv_goto (tgt := 18) C.1 C.2.1 dL_law_1626 (by decide) ?_
                                                                      exact ih18 _ _ _ _ _ _ hd h r_x275 B (lv_sub hl [0, 1, 2, 3] rfl)
                                                                    · refine jr_iconst C dL_law_1288 ?_
                                                                      exact h.elim
                                                                  · rw [if_neg hs33_29] at h
                                                                    by_cases hs33_30 : (jAnd (X x1) 63) = 30
                                                                    · rw [if_pos hs33_30] at h
                                                                      refine jr_tableIn (v := 30) (off := 1257) (tgt := 1290) C (jAnd_R _ _) hs33_30 (by decide) (by decide) (by decide) dL_law_33 (by decide) ?_
                                                                      refine lv_aload_n C.1 C.2.1 dL_law_1290 rfl (lv_at hl 2 rfl) ?_
                                                                      refine lv_aload_n C.1 C.2.1 dL_law_1291 rfl (lv_at hl 3 rfl) ?_
                                                                      refine lv_iload_n C.1 C.2.1 dL_law_1292 rfl (lv_at hl 0 rfl) ?_
                                                                      refine jr_iconst C dL_law_1293 ?_
                                                                      refine jr_iadd C dL_law_1294 ?_
                                                                      obtain ⟨g276, h⟩ := h
                                                                      refine jr_sld C ⟨hX, rfl, hLn, hXs⟩ hbl hbA B (jW_R _) g276 dL_law_1295 ?_
                                                                      refine cl_X6_listSize C hl.1 B q_612 ⟨Nat.le_of_ble_eq_true rfl, Nat.le_of_ble_eq_true rfl⟩ ⟨Nat.le_of_ble_eq_true rfl, Nat.le_of_ble_eq_true rfl⟩ (Nat.le_of_ble_eq_true rfl) k_X (r_X (jW (x1 + 1))) h dL_law_1296 (fun x277 r_x277 _ _ h B => ?_)
                                                                      refine lv_aload_n C.1 C.2.1 dL_law_1299 rfl (lv_at hl 1 rfl) ?_
                                                                      refine lv_aload_n C.1 C.2.1 dL_law_1300 rfl (lv_at hl 3 rfl) ?_
                                                                      refine lv_iload_n C.1 C.2.1 dL_law_1301 rfl (lv_at hl 0 rfl) ?_
                                                                      refine jr_iconst C dL_law_1302 ?_
                                                                      refine jr_iadd C dL_law_1303 ?_
                                                                      obtain ⟨g278, h⟩ := h
                                                                      refine jr_sld C ⟨hX, rfl, hLn, hXs⟩ hbl hbA B (jW_R _) g278 dL_law_1304 ?_
                                                                      refine cl_X7_listSize C hl.1 B q_1081 ⟨Nat.le_of_ble_eq_true rfl, Nat.le_of_ble_eq_true rfl⟩ ⟨Nat.le_of_ble_eq_true rfl, Nat.le_of_ble_eq_true rfl⟩ (Nat.le_of_ble_eq_true rfl) k_Y (r_X (jW (x1 + 1))) h dL_law_1305 (fun x279 r_x279 _ _ h B => ?_)
                                                                      refine jr_icmp_eq (tgt := 1623) C r_x277 r_x279 h dL_law_1308 (by decide) (fun hc1308 h => ?_) (fun hc1308 h => ?_)
                                                                      · refine jr_iinc (k := 0) (lv' := fun x280 => [(3, .int (jI x280)), (2, .ref (jD G 252)), (1, .ref (jD G 0)), (0, .ref b)]) C h hl rfl (by decide) (fun _ => rfl) dL_law_1623 (fun x280 h r_x280 ls hl => ?_)
                                                                        refine lv_goto (tgt := 18) C.1 C.2.1 dL_law_1626 (by decide) ?_
                                                                        exact ih18 _ _ _ _ _ _ hd h r_x280 B (lv_sub hl [0, 1, 2, 3] rfl)
                                                                      · refine jr_iconst C dL_law_1311 ?_
                                                                        exact h.elim
                                                                    · rw [if_neg hs33_30] at h
                                                                      by_cases hs33_31 : (jAnd (X x1) 63) = 31
                                                                      · rw [if_pos hs33_31] at h
                                                                        refine jr_tableIn (v := 31) (off := 1280) (tgt := 1313) C (jAnd_R _ _) hs33_31 (by decide) (by decide) (by decide) dL_law_33 (by decide) ?_
                                                                        refine lv_aload_n C.1 C.2.1 dL_law_1313 rfl (lv_at hl 2 rfl) ?_
                                                                        refine lv_aload_n C.1 C.2.1 dL_law_1314 rfl (lv_at hl 3 rfl) ?_
                                                                        refine lv_iload_n C.1 C.2.1 dL_law_1315 rfl (lv_at hl 0 rfl) ?_
                                                                        refine jr_iconst C dL_law_1316 ?_
                                                                        refine jr_iadd C dL_law_1317 ?_
                                                                        obtain ⟨g281, h⟩ := h
                                                                        refine jr_sld C ⟨hX, rfl, hLn, hXs⟩ hbl hbA B (jW_R _) g281 dL_law_1318 ?_
                                                                        refine lv_aload_n C.1 C.2.1 dL_law_1319 rfl (lv_at hl 3 rfl) ?_
                                                                        refine lv_iload_n C.1 C.2.1 dL_law_1320 rfl (lv_at hl 0 rfl) ?_
                                                                        refine jr_iconst C dL_law_1321 ?_
                                                                        refine jr_iadd C dL_law_1322 ?_
                                                                        obtain ⟨g282, h⟩ := h
                                                                        refine jr_sld C ⟨hX, rfl, hLn, hXs⟩ hbl hbA B (jW_R _) g282 dL_law_1323 ?_
                                                                        refine cl_X6_listAt C hl.1 B q_616 ⟨Nat.le_of_ble_eq_true rfl, Nat.le_of_ble_eq_true rfl⟩ ⟨Nat.le_of_ble_eq_true rfl, Nat.le_of_ble_eq_true rfl⟩ (Nat.le_of_ble_eq_true rfl) k_X (r_X (jW (x1 + 1))) (r_X (jW (x1 + 2))) h dL_law_1324 (fun x283 r_x283 _ _ h B => ?_)
                                                                        refine lv_aload_n C.1 C.2.1 dL_law_1327 rfl (lv_at hl 1 rfl) ?_
                                                                        refine lv_aload_n C.1 C.2.1 dL_law_1328 rfl (lv_at hl 3 rfl) ?_
                                                                        refine lv_iload_n C.1 C.2.1 dL_law_1329 rfl (lv_at hl 0 rfl) ?_
                                                                        refine jr_iconst C dL_law_1330 ?_
                                                                        refine jr_iadd C dL_law_1331 ?_
                                                                        obtain ⟨g284, h⟩ := h
                                                                        refine jr_sld C ⟨hX, rfl, hLn, hXs⟩ hbl hbA B (jW_R _) g284 dL_law_1332 ?_
                                                                        refine lv_aload_n C.1 C.2.1 dL_law_1333 rfl (lv_at hl 3 rfl) ?_
                                                                        refine lv_iload_n C.1 C.2.1 dL_law_1334 rfl (lv_at hl 0 rfl) ?_
                                                                        refine jr_iconst C dL_law_1335 ?_
                                                                        refine jr_iadd C dL_law_1336 ?_
                                                                        obtain ⟨g285, h⟩ := h
                                                                        refine jr_sld C ⟨hX, rfl, hLn, hXs⟩ hbl hbA B (jW_R _) g285 dL_law_1337 ?_
                                                                        refine cl_X7_listAt C hl.1 B q_1085 ⟨Nat.le_of_ble_eq_true rfl, Nat.le_of_ble_eq_true rfl⟩ ⟨Nat.le_of_ble_eq_true rfl, Nat.le_of_ble_eq_true rfl⟩ (Nat.le_of_ble_eq_true rfl) k_Y (r_X (jW (x1 + 1))) (r_X (jW (x1 + 2))) h dL_law_1338 (fun x286 r_x286 _ _ h B => ?_)
                                                                        refine jr_icmp_eq (tgt := 1623) C r_x283 r_x286 h dL_law_1341 (by decide) (fun hc1341 h => ?_) (fun hc1341 h => ?_)
                                                                        · refine jr_iinc (k := 0) (lv' := fun x287 => [(3, .int (jI x287)), (2, .ref (jD G 252)), (1, .ref (jD G 0)), (0, .ref b)]) C h hl rfl (by decide) (fun _ => rfl) dL_law_1623 (fun x287 h r_x287 ls hl => ?_)
                                                                          refine lv_goto (tgt := 18) C.1 C.2.1 dL_law_1626 (by decide) ?_
                                                                          exact ih18 _ _ _ _ _ _ hd h r_x287 B (lv_sub hl [0, 1, 2, 3] rfl)
                                                                        · refine jr_iconst C dL_law_1344 ?_
                                                                          exact h.elim
                                                                      · rw [if_neg hs33_31] at h
                                                                        by_cases hs33_32 : (jAnd (X x1) 63) = 32
                                                                        · rw [if_pos hs33_32] at h
                                                                          refine jr_tableIn (v := 32) (off := 1313) (tgt := 1346) C (jAnd_R _ _) hs33_32 (by decide) (by decide) (by decide) dL_law_33 (by decide) ?_
                                                                          refine lv_aload_n C.1 C.2.1 dL_law_1346 rfl (lv_at hl 2 rfl) ?_
                                                                          refine lv_aload_n C.1 C.2.1 dL_law_1347 rfl (lv_at hl 3 rfl) ?_
                                                                          refine lv_iload_n C.1 C.2.1 dL_law_1348 rfl (lv_at hl 0 rfl) ?_
                                                                          refine jr_iconst C dL_law_1349 ?_
                                                                          refine jr_iadd C dL_law_1350 ?_
                                                                          obtain ⟨g288, h⟩ := h
                                                                          refine jr_sld C ⟨hX, rfl, hLn, hXs⟩ hbl hbA B (jW_R _) g288 dL_law_1351 ?_
                                                                          refine lv_aload_n C.1 C.2.1 dL_law_1352 rfl (lv_at hl 3 rfl) ?_
                                                                          refine lv_iload_n C.1 C.2.1 dL_law_1353 rfl (lv_at hl 0 rfl) ?_
                                                                          refine jr_iconst C dL_law_1354 ?_
                                                                          refine jr_iadd C dL_law_1355 ?_
                                                                          obtain ⟨g289, h⟩ := h
                                                                          refine jr_sld C ⟨hX, rfl, hLn, hXs⟩ hbl hbA B (jW_R _) g289 dL_law_1356 ?_
                                                                          refine cl_X6_numbers C hl.1 B q_620 ⟨Nat.le_of_ble_eq_true rfl, Nat.le_of_ble_eq_true rfl⟩ ⟨Nat.le_of_ble_eq_true rfl, Nat.le_of_ble_eq_true rfl⟩ (Nat.le_of_ble_eq_true rfl) k_X (r_X (jW (x1 + 1))) (r_X (jW (x1 + 2))) h dL_law_1357 (fun x290 M291 r_x290 _ _ h B => ?_)
                                                                          have o_M291 := B.2.2
                                                                          refine lv_aload_n C.1 C.2.1 dL_law_1360 rfl (lv_at hl 1 rfl) ?_
                                                                          refine lv_aload_n C.1 C.2.1 dL_law_1361 rfl (lv_at hl 3 rfl) ?_
                                                                          refine lv_iload_n C.1 C.2.1 dL_law_1362 rfl (lv_at hl 0 rfl) ?_
                                                                          refine jr_iconst C dL_law_1363 ?_
                                                                          refine jr_iadd C dL_law_1364 ?_
                                                                          obtain ⟨g292, h⟩ := h
                                                                          refine jr_sld C ⟨hX, rfl, hLn, hXs⟩ hbl hbA B (jW_R _) g292 dL_law_1365 ?_
                                                                          refine lv_aload_n C.1 C.2.1 dL_law_1366 rfl (lv_at hl 3 rfl) ?_
                                                                          refine lv_iload_n C.1 C.2.1 dL_law_1367 rfl (lv_at hl 0 rfl) ?_
                                                                          refine jr_iconst C dL_law_1368 ?_
                                                                          refine jr_iadd C dL_law_1369 ?_
                                                                          obtain ⟨g293, h⟩ := h
                                                                          refine jr_sld C ⟨hX, rfl, hLn, hXs⟩ hbl hbA B (jW_R _) g293 dL_law_1370 ?_
                                                                          refine cl_X7_numbers C hl.1 B q_1089 ⟨Nat.le_of_ble_eq_true rfl, Nat.le_of_ble_eq_true rfl⟩ ⟨Nat.le_of_ble_eq_true rfl, Nat.le_of_ble_eq_true rfl⟩ (Nat.le_of_ble_eq_true rfl) k_Y (r_X (jW (x1 + 1))) (r_X (jW (x1 + 2))) h dL_law_1371 (fun x294 M295 r_x294 _ _ h B => ?_)
                                                                          have o_M295 := B.2.2
                                                                          refine jr_icmp_eq (tgt := 1623) C r_x290 r_x294 h dL_law_1374 (by decide) (fun hc1374 h => ?_) (fun hc1374 h => ?_)
                                                                          · refine jr_iinc (k := 0) (lv' := fun x296 => [(3, .int (jI x296)), (2, .ref (jD G 252)), (1, .ref (jD G 0)), (0, .ref b)]) C h hl rfl (by decide) (fun _ => rfl) dL_law_1623 (fun x296 h r_x296 ls hl => ?_)
                                                                            refine lv_goto (tgt := 18) C.1 C.2.1 dL_law_1626 (by decide) ?_
                                                                            exact ih18 _ _ _ _ _ _ hd h r_x296 B (lv_sub hl [0, 1, 2, 3] rfl)
                                                                          · refine jr_iconst C dL_law_1377 ?_
                                                                            exact h.elim
                                                                        · rw [if_neg hs33_32] at h
                                                                          by_cases hs33_33 : (jAnd (X x1) 63) = 33
                                                                          · rw [if_pos hs33_33] at h
                                                                            refine jr_tableIn (v := 33) (off := 1346) (tgt := 1379) C (jAnd_R _ _) hs33_33 (by decide) (by decide) (by decide) dL_law_33 (by decide) ?_
                                                                            refine lv_aload_n C.1 C.2.1 dL_law_1379 rfl (lv_at hl 2 rfl) ?_
                                                                            refine lv_aload_n C.1 C.2.1 dL_law_1380 rfl (lv_at hl 3 rfl) ?_
                                                                            refine lv_iload_n C.1 C.2.1 dL_law_1381 rfl (lv_at hl 0 rfl) ?_
                                                                            refine jr_iconst C dL_law_1382 ?_
                                                                            refine jr_iadd C dL_law_1383 ?_
                                                                            obtain ⟨g297, h⟩ := h
                                                                            refine jr_sld C ⟨hX, rfl, hLn, hXs⟩ hbl hbA B (jW_R _) g297 dL_law_1384 ?_
                                                                            refine lv_aload_n C.1 C.2.1 dL_law_1385 rfl (lv_at hl 3 rfl) ?_
                                                                            refine lv_iload_n C.1 C.2.1 dL_law_1386 rfl (lv_at hl 0 rfl) ?_
                                                                            refine jr_iconst C dL_law_1387 ?_
                                                                            refine jr_iadd C dL_law_1388 ?_
                                                                            obtain ⟨g298, h⟩ := h
                                                                            refine jr_sld C ⟨hX, rfl, hLn, hXs⟩ hbl hbA B (jW_R _) g298 dL_law_1389 ?_
                                                                            refine lv_aload_n C.1 C.2.1 dL_law_1390 rfl (lv_at hl 3 rfl) ?_
                                                                            refine lv_iload_n C.1 C.2.1 dL_law_1391 rfl (lv_at hl 0 rfl) ?_
                                                                            refine jr_iconst C dL_law_1392 ?_
                                                                            refine jr_iadd C dL_law_1393 ?_
                                                                            obtain ⟨g299, h⟩ := h
                                                                            refine jr_sld C ⟨hX, rfl, hLn, hXs⟩ hbl hbA B (jW_R _) g299 dL_law_1394 ?_
                                                                            refine cl_X6_numberAt C hl.1 B q_624 ⟨Nat.le_of_ble_eq_true rfl, Nat.le_of_ble_eq_true rfl⟩ ⟨Nat.le_of_ble_eq_true rfl, Nat.le_of_ble_eq_true rfl⟩ (Nat.le_of_ble_eq_true rfl) k_X (r_X (jW (x1 + 1))) (r_X (jW (x1 + 2))) (r_X (jW (x1 + 3))) h dL_law_1395 (fun x300 M301 r_x300 _ _ h B => ?_)
                                                                            have o_M301 := B.2.2
                                                                            refine lv_aload_n C.1 C.2.1 dL_law_1398 rfl (lv_at hl 1 rfl) ?_
                                                                            refine lv_aload_n C.1 C.2.1 dL_law_1399 rfl (lv_at hl 3 rfl) ?_
                                                                            refine lv_iload_n C.1 C.2.1 dL_law_1400 rfl (lv_at hl 0 rfl) ?_
                                                                            refine jr_iconst C dL_law_1401 ?_
                                                                            refine jr_iadd C dL_law_1402 ?_
                                                                            obtain ⟨g302, h⟩ := h
                                                                            refine jr_sld C ⟨hX, rfl, hLn, hXs⟩ hbl hbA B (jW_R _) g302 dL_law_1403 ?_
                                                                            refine lv_aload_n C.1 C.2.1 dL_law_1404 rfl (lv_at hl 3 rfl) ?_
                                                                            refine lv_iload_n C.1 C.2.1 dL_law_1405 rfl (lv_at hl 0 rfl) ?_
                                                                            refine jr_iconst C dL_law_1406 ?_
                                                                            refine jr_iadd C dL_law_1407 ?_
                                                                            obtain ⟨g303, h⟩ := h
                                                                            refine jr_sld C ⟨hX, rfl, hLn, hXs⟩ hbl hbA B (jW_R _) g303 dL_law_1408 ?_
                                                                            refine lv_aload_n C.1 C.2.1 dL_law_1409 rfl (lv_at hl 3 rfl) ?_
                                                                            refine lv_iload_n C.1 C.2.1 dL_law_1410 rfl (lv_at hl 0 rfl) ?_
                                                                            refine jr_iconst C dL_law_1411 ?_
                                                                            refine jr_iadd C dL_law_1412 ?_
                                                                            obtain ⟨g304, h⟩ := h
                                                                            refine jr_sld C ⟨hX, rfl, hLn, hXs⟩ hbl hbA B (jW_R _) g304 dL_law_1413 ?_
                                                                            refine cl_X7_numberAt C hl.1 B q_1093 ⟨Nat.le_of_ble_eq_true rfl, Nat.le_of_ble_eq_true rfl⟩ ⟨Nat.le_of_ble_eq_true rfl, Nat.le_of_ble_eq_true rfl⟩ (Nat.le_of_ble_eq_true rfl) k_Y (r_X (jW (x1 + 1))) (r_X (jW (x1 + 2))) (r_X (jW (x1 + 3))) h dL_law_1414 (fun x305 M306 r_x305 _ _ h B => ?_)
                                                                            have o_M306 := B.2.2
                                                                            refine jr_icmp_eq (tgt := 1623) C r_x300 r_x305 h dL_law_1417 (by decide) (fun hc1417 h => ?_) (fun hc1417 h => ?_)
                                                                            · refine jr_iinc (k := 0) (lv' := fun x307 => [(3, .int (jI x307)), (2, .ref (jD G 252)), (1, .ref (jD G 0)), (0, .ref b)]) C h hl rfl (by decide) (fun _ => rfl) dL_law_1623 (fun x307 h r_x307 ls hl => ?_)
                                                                              refine lv_goto (tgt := 18) C.1 C.2.1 dL_law_1626 (by decide) ?_
                                                                              exact ih18 _ _ _ _ _ _ hd h r_x307 B (lv_sub hl [0, 1, 2, 3] rfl)
                                                                            · refine jr_iconst C dL_law_1420 ?_
                                                                              exact h.elim
                                                                          · rw [if_neg hs33_33] at h
                                                                            by_cases hs33_34 : (jAnd (X x1) 63) = 34
                                                                            · rw [if_pos hs33_34] at h
                                                                              refine jr_tableIn (v := 34) (off := 1389) (tgt := 1422) C (jAnd_R _ _) hs33_34 (by decide) (by decide) (by decide) dL_law_33 (by decide) ?_
                                                                              refine lv_aload_n C.1 C.2.1 dL_law_1422 rfl (lv_at hl 2 rfl) ?_
                                                                              refine lv_aload_n C.1 C.2.1 dL_law_1423 rfl (lv_at hl 3 rfl) ?_
                                                                              refine lv_iload_n C.1 C.2.1 dL_law_1424 rfl (lv_at hl 0 rfl) ?_
                                                                              refine jr_iconst C dL_law_1425 ?_
                                                                              refine jr_iadd C dL_law_1426 ?_
                                                                              obtain ⟨g308, h⟩ := h
                                                                              refine jr_sld C ⟨hX, rfl, hLn, hXs⟩ hbl hbA B (jW_R _) g308 dL_law_1427 ?_
                                                                              refine cl_X6_exploded C hl.1 B q_628 ⟨Nat.le_of_ble_eq_true rfl, Nat.le_of_ble_eq_true rfl⟩ ⟨Nat.le_of_ble_eq_true rfl, Nat.le_of_ble_eq_true rfl⟩ (Nat.le_of_ble_eq_true rfl) k_X (r_X (jW (x1 + 1))) h dL_law_1428 (fun x309 M310 r_x309 _ _ h B => ?_)
                                                                              have o_M310 := B.2.2
                                                                              refine lv_aload_n C.1 C.2.1 dL_law_1431 rfl (lv_at hl 1 rfl) ?_
                                                                              refine lv_aload_n C.1 C.2.1 dL_law_1432 rfl (lv_at hl 3 rfl) ?_
                                                                              refine lv_iload_n C.1 C.2.1 dL_law_1433 rfl (lv_at hl 0 rfl) ?_
                                                                              refine jr_iconst C dL_law_1434 ?_
                                                                              refine jr_iadd C dL_law_1435 ?_
                                                                              obtain ⟨g311, h⟩ := h
                                                                              refine jr_sld C ⟨hX, rfl, hLn, hXs⟩ hbl hbA B (jW_R _) g311 dL_law_1436 ?_
                                                                              refine cl_X7_exploded C hl.1 B q_1097 ⟨Nat.le_of_ble_eq_true rfl, Nat.le_of_ble_eq_true rfl⟩ ⟨Nat.le_of_ble_eq_true rfl, Nat.le_of_ble_eq_true rfl⟩ (Nat.le_of_ble_eq_true rfl) k_Y (r_X (jW (x1 + 1))) h dL_law_1437 (fun x312 M313 r_x312 _ _ h B => ?_)
                                                                              have o_M313 := B.2.2
                                                                              refine jr_icmp_eq (tgt := 1623) C r_x309 r_x312 h dL_law_1440 (by decide) (fun hc1440 h => ?_) (fun hc1440 h => ?_)
                                                                              · refine jr_iinc (k := 0) (lv' := fun x314 => [(3, .int (jI x314)), (2, .ref (jD G 252)), (1, .ref (jD G 0)), (0, .ref b)]) C h hl rfl (by decide) (fun _ => rfl) dL_law_1623 (fun x314 h r_x314 ls hl => ?_)
                                                                                refine lv_goto (tgt := 18) C.1 C.2.1 dL_law_1626 (by decide) ?_
                                                                                exact ih18 _ _ _ _ _ _ hd h r_x314 B (lv_sub hl [0, 1, 2, 3] rfl)
                                                                              · refine jr_iconst C dL_law_1443 ?_
                                                                                exact h.elim
                                                                            · rw [if_neg hs33_34] at h
                                                                              by_cases hs33_35 : (jAnd (X x1) 63) = 35
                                                                              · rw [if_pos hs33_35] at h
                                                                                refine jr_tableIn (v := 35) (off := 1412) (tgt := 1445) C (jAnd_R _ _) hs33_35 (by decide) (by decide) (by decide) dL_law_33 (by decide) ?_
                                                                                refine lv_aload_n C.1 C.2.1 dL_law_1445 rfl (lv_at hl 2 rfl) ?_
                                                                                refine lv_aload_n C.1 C.2.1 dL_law_1446 rfl (lv_at hl 3 rfl) ?_
                                                                                refine lv_iload_n C.1 C.2.1 dL_law_1447 rfl (lv_at hl 0 rfl) ?_
                                                                                refine jr_iconst C dL_law_1448 ?_
                                                                                refine jr_iadd C dL_law_1449 ?_
                                                                                obtain ⟨g315, h⟩ := h
                                                                                refine jr_sld C ⟨hX, rfl, hLn, hXs⟩ hbl hbA B (jW_R _) g315 dL_law_1450 ?_
                                                                                refine lv_aload_n C.1 C.2.1 dL_law_1451 rfl (lv_at hl 3 rfl) ?_
                                                                                refine lv_iload_n C.1 C.2.1 dL_law_1452 rfl (lv_at hl 0 rfl) ?_
                                                                                refine jr_iconst C dL_law_1453 ?_
                                                                                refine jr_iadd C dL_law_1454 ?_
                                                                                obtain ⟨g316, h⟩ := h
                                                                                refine jr_sld C ⟨hX, rfl, hLn, hXs⟩ hbl hbA B (jW_R _) g316 dL_law_1455 ?_
                                                                                obtain ⟨j1456_318, hj1456_318, h⟩ := jx_join (P := fun j1456_318 : Int → Prop => ∀ (x317 : Int) (H : Heap) (locs : List Loc) (ls : Array Slot), j1456_318 x317 → (x317 = 0 ∨ x317 = 1) → Hp G M2 s.heap H locs → lv_has ls 8 [(3, .int (jI x1)), (2, .ref (jD G 252)), (1, .ref (jD G 0)), (0, .ref b)] → W p l e room_1 (s.setDrawn d0) m #[Value.ref b] below meth c H locs 262 18807 (lw_Z below #[Value.ref b] s) (F0 m 1464 ls [.int (jI x317), .int (jI (X (jW (x1 + 1)))), .ref (jD G 0)])) h (by
                                                                                  intro x317 H locs ls h z_x317 B hl
                                                                                  refine lv_aload_n C.1 C.2.1 dL_law_1464 rfl (lv_at hl 3 rfl) ?_
                                                                                  refine lv_iload_n C.1 C.2.1 dL_law_1465 rfl (lv_at hl 0 rfl) ?_
                                                                                  refine jr_iconst C dL_law_1466 ?_
                                                                                  refine jr_iadd C dL_law_1467 ?_
                                                                                  obtain ⟨g319, h⟩ := h
                                                                                  refine jr_sld C ⟨hX, rfl, hLn, hXs⟩ hbl hbA B (jW_R _) g319 dL_law_1468 ?_
                                                                                  refine lv_aload_n C.1 C.2.1 dL_law_1469 rfl (lv_at hl 3 rfl) ?_
                                                                                  refine lv_iload_n C.1 C.2.1 dL_law_1470 rfl (lv_at hl 0 rfl) ?_
                                                                                  refine jr_iconst C dL_law_1471 ?_
                                                                                  refine jr_iadd C dL_law_1472 ?_
                                                                                  obtain ⟨g320, h⟩ := h
                                                                                  refine jr_sld C ⟨hX, rfl, hLn, hXs⟩ hbl hbA B (jW_R _) g320 dL_law_1473 ?_
                                                                                  refine cl_X6_explodedAt C hl.1 B q_636 ⟨Nat.le_of_ble_eq_true rfl, Nat.le_of_ble_eq_true rfl⟩ ⟨Nat.le_of_ble_eq_true rfl, Nat.le_of_ble_eq_true rfl⟩ (Nat.le_of_ble_eq_true rfl) k_X (r_X (jW (x1 + 1))) z_x317 (r_X (jW (x1 + 3))) (r_X (jW (x1 + 4))) h dL_law_1474 (fun x321 M322 r_x321 _ _ h B => ?_)
                                                                                  have o_M322 := B.2.2
                                                                                  refine lv_aload_n C.1 C.2.1 dL_law_1477 rfl (lv_at hl 1 rfl) ?_
                                                                                  refine lv_aload_n C.1 C.2.1 dL_law_1478 rfl (lv_at hl 3 rfl) ?_
                                                                                  refine lv_iload_n C.1 C.2.1 dL_law_1479 rfl (lv_at hl 0 rfl) ?_
                                                                                  refine jr_iconst C dL_law_1480 ?_
                                                                                  refine jr_iadd C dL_law_1481 ?_
                                                                                  obtain ⟨g323, h⟩ := h
                                                                                  refine jr_sld C ⟨hX, rfl, hLn, hXs⟩ hbl hbA B (jW_R _) g323 dL_law_1482 ?_
                                                                                  refine lv_aload_n C.1 C.2.1 dL_law_1483 rfl (lv_at hl 3 rfl) ?_
                                                                                  refine lv_iload_n C.1 C.2.1 dL_law_1484 rfl (lv_at hl 0 rfl) ?_
                                                                                  refine jr_iconst C dL_law_1485 ?_
                                                                                  refine jr_iadd C dL_law_1486 ?_
                                                                                  obtain ⟨g324, h⟩ := h
                                                                                  refine jr_sld C ⟨hX, rfl, hLn, hXs⟩ hbl hbA B (jW_R _) g324 dL_law_1487 ?_
                                                                                  obtain ⟨j1488_326, hj1488_326, h⟩ := jx_join (P := fun j1488_326 : Int → Prop => ∀ (x325 : Int) (H : Heap) (locs : List Loc) (ls : Array Slot), j1488_326 x325 → (x325 = 0 ∨ x325 = 1) → Hp G M322 s.heap H locs → lv_has ls 8 [(3, .int (jI x1)), (2, .ref (jD G 252)), (1, .ref (jD G 0)), (0, .ref b)] → W p l e room_1 (s.setDrawn d0) m #[Value.ref b] below meth c H locs 262 18807 (lw_Z below #[Value.ref b] s) (F0 m 1496 ls [.int (jI x325), .int (jI (X (jW (x1 + 1)))), .ref (jD G 252), .int (jI x321)])) h (by
                                                                                    intro x325 H locs ls h z_x325 B hl
                                                                                    refine lv_aload_n C.1 C.2.1 dL_law_1496 rfl (lv_at hl 3 rfl) ?_
                                                                                    refine lv_iload_n C.1 C.2.1 dL_law_1497 rfl (lv_at hl 0 rfl) ?_
                                                                                    refine jr_iconst C dL_law_1498 ?_
                                                                                    refine jr_iadd C dL_law_1499 ?_
                                                                                    obtain ⟨g327, h⟩ := h
                                                                                    refine jr_sld C ⟨hX, rfl, hLn, hXs⟩ hbl hbA B (jW_R _) g327 dL_law_1500 ?_
                                                                                    refine lv_aload_n C.1 C.2.1 dL_law_1501 rfl (lv_at hl 3 rfl) ?_
                                                                                    refine lv_iload_n C.1 C.2.1 dL_law_1502 rfl (lv_at hl 0 rfl) ?_
                                                                                    refine jr_iconst C dL_law_1503 ?_
                                                                                    refine jr_iadd C dL_law_1504 ?_
                                                                                    obtain ⟨g328, h⟩ := h
                                                                                    refine jr_sld C ⟨hX, rfl, hLn, hXs⟩ hbl hbA B (jW_R _) g328 dL_law_1505 ?_
                                                                                    refine cl_X7_explodedAt C hl.1 B q_1105 ⟨Nat.le_of_ble_eq_true rfl, Nat.le_of_ble_eq_true rfl⟩ ⟨Nat.le_of_ble_eq_true rfl, Nat.le_of_ble_eq_true rfl⟩ (Nat.le_of_ble_eq_true rfl) k_Y (r_X (jW (x1 + 1))) z_x325 (r_X (jW (x1 + 3))) (r_X (jW (x1 + 4))) h dL_law_1506 (fun x329 M330 r_x329 _ _ h B => ?_)
                                                                                    have o_M330 := B.2.2
                                                                                    refine jr_icmp_eq (tgt := 1623) C r_x321 r_x329 h dL_law_1509 (by decide) (fun hc1509 h => ?_) (fun hc1509 h => ?_)
                                                                                    · refine jr_iinc (k := 0) (lv' := fun x331 => [(3, .int (jI x331)), (2, .ref (jD G 252)), (1, .ref (jD G 0)), (0, .ref b)]) C h hl rfl (by decide) (fun _ => rfl) dL_law_1623 (fun x331 h r_x331 ls hl => ?_)
                                                                                      refine lv_goto (tgt := 18) C.1 C.2.1 dL_law_1626 (by decide) ?_
                                                                                      exact ih18 _ _ _ _ _ _ hd h r_x331 B (lv_sub hl [0, 1, 2, 3] rfl)
                                                                                    · refine jr_iconst C dL_law_1512 ?_
                                                                                      exact h.elim)
                                                                                  refine jr_if_eq (tgt := 1495) C (r_X (jW (x1 + 2))) h dL_law_1488 (by decide) (fun hc1488 h => ?_) (fun hc1488 h => ?_)
                                                                                  · refine jr_iconst C dL_law_1495 ?_
                                                                                    exact hj1488_326 _ _ _ _ h (Or.inl rfl) B (lv_sub hl [0, 1, 2, 3] rfl)
                                                                                  · refine jr_iconst C dL_law_1491 ?_
                                                                                    refine lv_goto (tgt := 1496) C.1 C.2.1 dL_law_1492 (by decide) ?_
                                                                                    exact hj1488_326 _ _ _ _ h (Or.inr rfl) B (lv_sub hl [0, 1, 2, 3] rfl))
                                                                                refine jr_if_eq (tgt := 1463) C (r_X (jW (x1 + 2))) h dL_law_1456 (by decide) (fun hc1456 h => ?_) (fun hc1456 h => ?_)
                                                                                · refine jr_iconst C dL_law_1463 ?_
                                                                                  exact hj1456_318 _ _ _ _ h (Or.inl rfl) B (lv_sub hl [0, 1, 2, 3] rfl)
                                                                                · refine jr_iconst C dL_law_1459 ?_
                                                                                  refine lv_goto (tgt := 1464) C.1 C.2.1 dL_law_1460 (by decide) ?_
                                                                                  exact hj1456_318 _ _ _ _ h (Or.inr rfl) B (lv_sub hl [0, 1, 2, 3] rfl)
                                                                              · rw [if_neg hs33_35] at h
                                                                                by_cases hs33_36 : (jAnd (X x1) 63) = 36
                                                                                · rw [if_pos hs33_36] at h
                                                                                  refine jr_tableIn (v := 36) (off := 1481) (tgt := 1514) C (jAnd_R _ _) hs33_36 (by decide) (by decide) (by decide) dL_law_33 (by decide) ?_
                                                                                  refine lv_aload_n C.1 C.2.1 dL_law_1514 rfl (lv_at hl 2 rfl) ?_
                                                                                  refine lv_aload_n C.1 C.2.1 dL_law_1515 rfl (lv_at hl 3 rfl) ?_
                                                                                  refine lv_iload_n C.1 C.2.1 dL_law_1516 rfl (lv_at hl 0 rfl) ?_
                                                                                  refine jr_iconst C dL_law_1517 ?_
                                                                                  refine jr_iadd C dL_law_1518 ?_
                                                                                  obtain ⟨g332, h⟩ := h
                                                                                  refine jr_sld C ⟨hX, rfl, hLn, hXs⟩ hbl hbA B (jW_R _) g332 dL_law_1519 ?_
                                                                                  refine lv_aload_n C.1 C.2.1 dL_law_1520 rfl (lv_at hl 3 rfl) ?_
                                                                                  refine lv_iload_n C.1 C.2.1 dL_law_1521 rfl (lv_at hl 0 rfl) ?_
                                                                                  refine jr_iconst C dL_law_1522 ?_
                                                                                  refine jr_iadd C dL_law_1523 ?_
                                                                                  obtain ⟨g333, h⟩ := h
                                                                                  refine jr_sld C ⟨hX, rfl, hLn, hXs⟩ hbl hbA B (jW_R _) g333 dL_law_1524 ?_
                                                                                  refine cl_X6_total C hl.1 B q_660 ⟨Nat.le_of_ble_eq_true rfl, Nat.le_of_ble_eq_true rfl⟩ ⟨Nat.le_of_ble_eq_true rfl, Nat.le_of_ble_eq_true rfl⟩ (Nat.le_of_ble_eq_true rfl) k_X (r_X (jW (x1 + 1))) (r_X (jW (x1 + 2))) h dL_law_1525 (fun x334 M335 r_x334 _ _ h B => ?_)
                                                                                  have o_M335 := B.2.2
                                                                                  refine lv_aload_n C.1 C.2.1 dL_law_1528 rfl (lv_at hl 1 rfl) ?_
                                                                                  refine lv_aload_n C.1 C.2.1 dL_law_1529 rfl (lv_at hl 3 rfl) ?_
                                                                                  refine lv_iload_n C.1 C.2.1 dL_law_1530 rfl (lv_at hl 0 rfl) ?_
                                                                                  refine jr_iconst C dL_law_1531 ?_
                                                                                  refine jr_iadd C dL_law_1532 ?_
                                                                                  obtain ⟨g336, h⟩ := h
                                                                                  refine jr_sld C ⟨hX, rfl, hLn, hXs⟩ hbl hbA B (jW_R _) g336 dL_law_1533 ?_
                                                                                  refine lv_aload_n C.1 C.2.1 dL_law_1534 rfl (lv_at hl 3 rfl) ?_
                                                                                  refine lv_iload_n C.1 C.2.1 dL_law_1535 rfl (lv_at hl 0 rfl) ?_
                                                                                  refine jr_iconst C dL_law_1536 ?_
                                                                                  refine jr_iadd C dL_law_1537 ?_
                                                                                  obtain ⟨g337, h⟩ := h
                                                                                  refine jr_sld C ⟨hX, rfl, hLn, hXs⟩ hbl hbA B (jW_R _) g337 dL_law_1538 ?_
                                                                                  refine cl_X7_total C hl.1 B q_1113 ⟨Nat.le_of_ble_eq_true rfl, Nat.le_of_ble_eq_true rfl⟩ ⟨Nat.le_of_ble_eq_true rfl, Nat.le_of_ble_eq_true rfl⟩ (Nat.le_of_ble_eq_true rfl) k_Y (r_X (jW (x1 + 1))) (r_X (jW (x1 + 2))) h dL_law_1539 (fun x338 M339 r_x338 _ _ h B => ?_)
                                                                                  have o_M339 := B.2.2
                                                                                  refine jr_icmp_eq (tgt := 1623) C r_x334 r_x338 h dL_law_1542 (by decide) (fun hc1542 h => ?_) (fun hc1542 h => ?_)
                                                                                  · refine jr_iinc (k := 0) (lv' := fun x340 => [(3, .int (jI x340)), (2, .ref (jD G 252)), (1, .ref (jD G 0)), (0, .ref b)]) C h hl rfl (by decide) (fun _ => rfl) dL_law_1623 (fun x340 h r_x340 ls hl => ?_)
                                                                                    refine lv_goto (tgt := 18) C.1 C.2.1 dL_law_1626 (by decide) ?_
                                                                                    exact ih18 _ _ _ _ _ _ hd h r_x340 B (lv_sub hl [0, 1, 2, 3] rfl)
                                                                                  · refine jr_iconst C dL_law_1545 ?_
                                                                                    exact h.elim
                                                                                · rw [if_neg hs33_36] at h
                                                                                  by_cases hs33_37 : (jAnd (X x1) 63) = 37
                                                                                  · rw [if_pos hs33_37] at h
                                                                                    refine jr_tableIn (v := 37) (off := 1514) (tgt := 1547) C (jAnd_R _ _) hs33_37 (by decide) (by decide) (by decide) dL_law_33 (by decide) ?_
                                                                                    refine lv_aload_n C.1 C.2.1 dL_law_1547 rfl (lv_at hl 2 rfl) ?_
                                                                                    refine lv_aload_n C.1 C.2.1 dL_law_1548 rfl (lv_at hl 3 rfl) ?_
                                                                                    refine lv_iload_n C.1 C.2.1 dL_law_1549 rfl (lv_at hl 0 rfl) ?_
                                                                                    refine jr_iconst C dL_law_1550 ?_
                                                                                    refine jr_iadd C dL_law_1551 ?_
                                                                                    obtain ⟨g341, h⟩ := h
                                                                                    refine jr_sld C ⟨hX, rfl, hLn, hXs⟩ hbl hbA B (jW_R _) g341 dL_law_1552 ?_
                                                                                    refine cl_X6_mean hd C hl.1 B q_669 ⟨Nat.le_of_ble_eq_true rfl, Nat.le_of_ble_eq_true rfl⟩ ⟨Nat.le_of_ble_eq_true rfl, Nat.le_of_ble_eq_true rfl⟩ (Nat.le_of_ble_eq_true rfl) k_X (r_X (jW (x1 + 1))) h dL_law_1553 (fun x342 M343 dd344 _ _ h B hd => ?_)
                                                                                    have C := C.redraw dd344
                                                                                    have o_M343 := B.2.2
                                                                                    refine lv_f2d_any hd lw_bits C.1 C.2.1 dL_law_1556 (fun f345 dd346 ha hd => ?_)
                                                                                    have h := h f345 ha
                                                                                    have C := C.redraw dd346
                                                                                    refine lv_dstore (lv' := [(4, .double f345), (3, .int (jI x1)), (2, .ref (jD G 252)), (1, .ref (jD G 0)), (0, .ref b)]) C.1 C.2.1 dL_law_1557 hl (by decide) rfl (fun ls hl => ?_)
                                                                                    refine lv_aload_n C.1 C.2.1 dL_law_1559 rfl (lv_at hl 2 rfl) ?_
                                                                                    refine lv_aload_n C.1 C.2.1 dL_law_1560 rfl (lv_at hl 4 rfl) ?_
                                                                                    refine lv_iload_n C.1 C.2.1 dL_law_1561 rfl (lv_at hl 1 rfl) ?_
                                                                                    refine jr_iconst C dL_law_1562 ?_
                                                                                    refine jr_iadd C dL_law_1563 ?_
                                                                                    obtain ⟨g347, h⟩ := h
                                                                                    refine jr_sld C ⟨hX, rfl, hLn, hXs⟩ hbl hbA B (jW_R _) g347 dL_law_1564 ?_
                                                                                    refine cl_X7_mean hd C hl.1 B q_1121 ⟨Nat.le_of_ble_eq_true rfl, Nat.le_of_ble_eq_true rfl⟩ ⟨Nat.le_of_ble_eq_true rfl, Nat.le_of_ble_eq_true rfl⟩ (Nat.le_of_ble_eq_true rfl) k_Y (r_X (jW (x1 + 1))) h dL_law_1565 (fun x348 M349 dd350 _ _ h B hd => ?_)
                                                                                    have C := C.redraw dd350
                                                                                    have o_M349 := B.2.2
                                                                                    refine lv_f2d_any hd lw_bits C.1 C.2.1 dL_law_1568 (fun f351 dd352 ha hd => ?_)
                                                                                    have h := h f351 ha
                                                                                    have C := C.redraw dd352
                                                                                    refine lv_dstore (lv' := [(6, .double f351), (4, .double f345), (3, .int (jI x1)), (2, .ref (jD G 252)), (1, .ref (jD G 0)), (0, .ref b)]) C.1 C.2.1 dL_law_1569 hl (by decide) rfl (fun ls hl => ?_)
                                                                                    refine lv_dload C.1 C.2.1 dL_law_1571 (lv_at hl 1 rfl) ?_
                                                                                    refine lv_dload C.1 C.2.1 dL_law_1573 (lv_at hl 0 rfl) ?_
                                                                                    refine jr_dcmp C dL_law_1575 ?_
                                                                                    refine jr_if_eq (tgt := 1597) C (jR_of _) h dL_law_1576 (by decide) (fun hc1576 h => ?_) (fun hc1576 h => ?_)
                                                                                    · refine lv_goto (tgt := 1623) C.1 C.2.1 dL_law_1597 (by decide) ?_
                                                                                      refine jr_iinc (k := 2) (lv' := fun x353 => [(3, .int (jI x353)), (6, .double f351), (4, .double f345), (2, .ref (jD G 252)), (1, .ref (jD G 0)), (0, .ref b)]) C h hl rfl (by decide) (fun _ => rfl) dL_law_1623 (fun x353 h r_x353 ls hl => ?_)
                                                                                      refine lv_goto (tgt := 18) C.1 C.2.1 dL_law_1626 (by decide) ?_
                                                                                      exact ih18 _ _ _ _ _ _ hd h r_x353 B (lv_sub hl [0, 3, 4, 5] rfl)
                                                                                    · refine lv_dload C.1 C.2.1 dL_law_1579 (lv_at hl 1 rfl) ?_
                                                                                      refine lv_dload C.1 C.2.1 dL_law_1581 (lv_at hl 1 rfl) ?_
                                                                                      refine jr_dcmp C dL_law_1583 ?_
                                                                                      refine jr_if_eq (tgt := 1595) C (jR_of _) h dL_law_1584 (by decide) (fun hc1584 h => ?_) (fun hc1584 h => ?_)
                                                                                      · refine jr_iconst C dL_law_1595 ?_
                                                                                        exact h.elim
                                                                                      · refine lv_dload C.1 C.2.1 dL_law_1587 (lv_at hl 0 rfl) ?_
                                                                                        refine lv_dload C.1 C.2.1 dL_law_1589 (lv_at hl 0 rfl) ?_
                                                                                        refine jr_dcmp C dL_law_1591 ?_
                                                                                        refine jr_if_ne (tgt := 1597) C (jR_of _) h dL_law_1592 (by decide) (fun hc1592 h => ?_) (fun hc1592 h => ?_)
                                                                                        · refine jr_iconst C dL_law_1595 ?_
                                                                                          exact h.elim
                                                                                        · refine lv_goto (tgt := 1623) C.1 C.2.1 dL_law_1597 (by decide) ?_
                                                                                          refine jr_iinc (k := 2) (lv' := fun x354 => [(3, .int (jI x354)), (6, .double f351), (4, .double f345), (2, .ref (jD G 252)), (1, .ref (jD G 0)), (0, .ref b)]) C h hl rfl (by decide) (fun _ => rfl) dL_law_1623 (fun x354 h r_x354 ls hl => ?_)
                                                                                          refine lv_goto (tgt := 18) C.1 C.2.1 dL_law_1626 (by decide) ?_
                                                                                          exact ih18 _ _ _ _ _ _ hd h r_x354 B (lv_sub hl [0, 3, 4, 5] rfl)
                                                                                  · rw [if_neg hs33_37] at h
                                                                                    by_cases hs33_38 : (jAnd (X x1) 63) = 38
                                                                                    · rw [if_pos hs33_38] at h
                                                                                      refine jr_tableIn (v := 38) (off := 1567) (tgt := 1600) C (jAnd_R _ _) hs33_38 (by decide) (by decide) (by decide) dL_law_33 (by decide) ?_
                                                                                      refine lv_aload_n C.1 C.2.1 dL_law_1600 rfl (lv_at hl 2 rfl) ?_
                                                                                      refine lv_aload_n C.1 C.2.1 dL_law_1601 rfl (lv_at hl 3 rfl) ?_
                                                                                      refine lv_iload_n C.1 C.2.1 dL_law_1602 rfl (lv_at hl 0 rfl) ?_
                                                                                      refine jr_iconst C dL_law_1603 ?_
                                                                                      refine jr_iadd C dL_law_1604 ?_
                                                                                      obtain ⟨g355, h⟩ := h
                                                                                      refine jr_sld C ⟨hX, rfl, hLn, hXs⟩ hbl hbA B (jW_R _) g355 dL_law_1605 ?_
                                                                                      refine cl_X6_repeated C hl.1 B q_674 ⟨Nat.le_of_ble_eq_true rfl, Nat.le_of_ble_eq_true rfl⟩ ⟨Nat.le_of_ble_eq_true rfl, Nat.le_of_ble_eq_true rfl⟩ (Nat.le_of_ble_eq_true rfl) k_X (r_X (jW (x1 + 1))) h dL_law_1606 (fun x356 M357 r_x356 _ _ h B => ?_)
                                                                                      have o_M357 := B.2.2
                                                                                      refine lv_aload_n C.1 C.2.1 dL_law_1609 rfl (lv_at hl 1 rfl) ?_
                                                                                      refine lv_aload_n C.1 C.2.1 dL_law_1610 rfl (lv_at hl 3 rfl) ?_
                                                                                      refine lv_iload_n C.1 C.2.1 dL_law_1611 rfl (lv_at hl 0 rfl) ?_
                                                                                      refine jr_iconst C dL_law_1612 ?_
                                                                                      refine jr_iadd C dL_law_1613 ?_
                                                                                      obtain ⟨g358, h⟩ := h
                                                                                      refine jr_sld C ⟨hX, rfl, hLn, hXs⟩ hbl hbA B (jW_R _) g358 dL_law_1614 ?_
                                                                                      refine cl_X7_repeated C hl.1 B q_1126 ⟨Nat.le_of_ble_eq_true rfl, Nat.le_of_ble_eq_true rfl⟩ ⟨Nat.le_of_ble_eq_true rfl, Nat.le_of_ble_eq_true rfl⟩ (Nat.le_of_ble_eq_true rfl) k_Y (r_X (jW (x1 + 1))) h dL_law_1615 (fun x359 M360 r_x359 _ _ h B => ?_)
                                                                                      have o_M360 := B.2.2
                                                                                      refine jr_icmp_eq (tgt := 1623) C r_x356 r_x359 h dL_law_1618 (by decide) (fun hc1618 h => ?_) (fun hc1618 h => ?_)
                                                                                      · refine jr_iinc (k := 0) (lv' := fun x361 => [(3, .int (jI x361)), (2, .ref (jD G 252)), (1, .ref (jD G 0)), (0, .ref b)]) C h hl rfl (by decide) (fun _ => rfl) dL_law_1623 (fun x361 h r_x361 ls hl => ?_)
                                                                                        refine lv_goto (tgt := 18) C.1 C.2.1 dL_law_1626 (by decide) ?_
                                                                                        exact ih18 _ _ _ _ _ _ hd h r_x361 B (lv_sub hl [0, 1, 2, 3] rfl)
                                                                                      · refine jr_iconst C dL_law_1621 ?_
                                                                                        exact h.elim
                                                                                    · rw [if_neg hs33_38] at h
                                                                                      refine jr_tableOut (tgt := 1623) C (jAnd_R _ _) (by omega) dL_law_33 (by decide) ?_
                                                                                      refine jr_iinc (k := 0) (lv' := fun x362 => [(3, .int (jI x362)), (2, .ref (jD G 252)), (1, .ref (jD G 0)), (0, .ref b)]) C h hl rfl (by decide) (fun _ => rfl) dL_law_1623 (fun x362 h r_x362 ls hl => ?_)
                                                                                      refine lv_goto (tgt := 18) C.1 C.2.1 dL_law_1626 (by decide) ?_
                                                                                      exact ih18 _ _ _ _ _ _ hd h r_x362 B (lv_sub hl [0, 1, 2, 3] rfl)
      · exact hkx18 _ _ _ _ _ hd h  B (lv_sub hl [] rfl)
  exact hL18 N _ _ _ _ _ _ hd h (jkc rfl) B (lv_sub hl [0, 1, 2, 3] rfl)
