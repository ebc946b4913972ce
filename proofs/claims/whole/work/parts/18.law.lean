/-! THE LAW'S OWN LOOP -/
theorem rmC : 400000 ≤ room_1.cells := by decide
theorem rmS : 2400000 ≤ room_1.slots := by decide
/-- the script: an int array of L ints, that no cell of the system is -/
def m_T (x : m_X) (b L : Nat) (xs : Nat → Int32) : Prop := match x with
  | (p, l, e, R, s, m, args, below, meth, c, E, A, Q) => va_X b L xs s s.heap ∧ b < s.heap.size ∧ ¬ A b
theorem r_sld {x : m_X} {l9 : Launch} {own : String} {cc : ByteArray} {nL : Nat} {rm9 : Room} {Z : m_Z} {S : m_S} {k n pc q b L9 : Nat} {xs9 : Nat → Int32} {L : List (Nat × Value)} {st : List Value} {i : Int32} (C : m_H x l9 own cc nL rm9) (T : m_T x b L9 xs9) (g : m_in i L9) (d : decode cc pc = .ok (.iaload, 1)) (hq : pc + 1 = q) (h : m_G x Z S nL k n q L (.int (xs9 i.toNatClampNeg) :: st)) : m_G x Z S nL k n pc L (.int i :: .ref b :: st) := by
  subst hq; obtain ⟨p, l, e, R, s, m, args9, below, meth, c, E, A, Q⟩ := x; obtain ⟨hx, hb, hml, hown, hts, hK, hA, hE, hlk, hR, hst, hl9⟩ := C; subst hb; obtain ⟨t1, t2, t3⟩ := T
  intro H locs ls hP hD hS hl
  exact va_sld hx rfl t1 t2 t3 hS g d (h H locs ls hP hD hS hl)
theorem r_slen9 {x : m_X} {l9 : Launch} {own : String} {cc : ByteArray} {nL : Nat} {rm9 : Room} {Z : m_Z} {S : m_S} {k n pc q b L9 : Nat} {xs9 : Nat → Int32} {L : List (Nat × Value)} {st : List Value} (C : m_H x l9 own cc nL rm9) (T : m_T x b L9 xs9) (d : decode cc pc = .ok (.arraylength, 1)) (hq : pc + 1 = q) (h : m_G x Z S nL k n q L (.int (Int32.ofNat L9) :: st)) : m_G x Z S nL k n pc L (.ref b :: st) := by
  subst hq; obtain ⟨p, l, e, R, s, m, args9, below, meth, c, E, A, Q⟩ := x; obtain ⟨hx, hb, hml, hown, hts, hK, hA, hE, hlk, hR, hst, hl9⟩ := C; subst hb; obtain ⟨t1, t2, t3⟩ := T
  intro H locs ls hP hD hS hl
  exact va_slen hx rfl t1 t2 t3 hS d (h H locs ls hP hD hS hl)
def F_L_law_28 (Z : m_Z) (L9 : Nat) (xs9 : (Nat → Int32)) (a1 : Nat) (a2 : Nat) (a3 : Nat) (a4 : Nat) (j2 : (m_S → Option (Unit))) (j4 : (m_S → Option (Unit))) (j6 : (m_S → Option (Unit))) (j8 : (m_S → Option (Unit))) (j10 : (m_S → Option (Unit))) (j12 : (m_S → Option (Unit))) (j14 : (m_S → Option (Unit))) (j16 : (m_S → Option (Unit))) (j18 : (m_S → Option (Unit))) (j20 : (m_S → Option (Unit))) (j22 : (m_S → Option (Unit))) (j24 : (m_S → Option (Unit))) (j26 : (m_S → Option (Unit))) (j28 : (m_S → Option (Unit))) (j30 : (m_S → Option (Unit))) (j32 : (m_S → Option (Unit))) (j34 : (m_S → Option (Unit))) (j36 : (m_S → Option (Unit))) (j38 : (m_S → Option (Unit))) (j40 : (m_S → Option (Unit))) (j42 : (m_S → Option (Unit))) (j44 : (m_S → Option (Unit))) (j46 : (m_S → Option (Unit))) (j48 : (m_S → Option (Unit))) (j50 : (m_S → Option (Unit))) (j52 : (m_S → Option (Unit))) (j54 : (m_S → Option (Unit))) (j56 : (m_S → Option (Unit))) (j58 : (m_S → Option (Unit))) (j60 : (m_S → Option (Unit))) (j62 : (m_S → Option (Unit))) (j64 : (m_S → Option (Unit))) (j66 : (m_S → Option (Unit))) (j68 : (m_S → Option (Unit))) (j70 : (m_S → Option (Unit))) (j72 : (m_S → Option (Unit))) (j74 : (m_S → Option (Unit))) (j76 : (m_S → Option (Unit))) (j78 : (m_S → Option (Unit))) (j80 : (m_S → Option (Unit))) (j82 : (m_S → Option (Unit))) (j84 : (m_S → Option (Unit))) (j86 : (m_S → Option (Unit))) (j88 : (m_S → Option (Unit))) (j90 : (m_S → Option (Unit))) (j92 : (m_S → Option (Unit))) (j94 : (m_S → Option (Unit))) (j96 : (m_S → Option (Unit))) (j98 : (m_S → Option (Unit))) (j100 : (m_S → Option (Unit))) (j102 : (m_S → Option (Unit))) (j104 : (m_S → Option (Unit))) (j106 : (m_S → Option (Unit))) (j108 : (m_S → Option (Unit))) (j110 : (m_S → Option (Unit))) (j112 : (m_S → Option (Unit))) (j114 : (m_S → Option (Unit))) (j116 : (m_S → Option (Unit))) (j118 : (m_S → Option (Unit))) (j120 : (m_S → Option (Unit))) (j122 : (m_S → Option (Unit))) (j124 : (m_S → Option (Unit))) (j126 : (m_S → Option (Unit))) (j128 : (m_S → Option (Unit))) (lp133 : (Int32 × m_S) → Option (Unit)) (p1088 : (Int32 × m_S)) : Option (Unit) := match p1088 with
  | (v129, S130) => (if ((Int32.ofNat L9) - (6 : Int32)) < v129 then j2 S130 else m_gd (m_in v129 L9) (m_lt ((xs9 v129.toNatClampNeg) &&& (63 : Int32)) (fun v139 => (if v139 = Int32.ofNat 0 then m_lt (v129 + (1 : Int32)) (fun v142 => m_gd (m_in v142 L9) (m_lt (v129 + (2 : Int32)) (fun v145 => m_gd (m_in v145 L9) (m_lt (v129 + (3 : Int32)) (fun v148 => m_gd (m_in v148 L9) (m_lt (v129 + (4 : Int32)) (fun v151 => m_gd (m_in v151 L9) (m_lt (v129 + (5 : Int32)) (fun v154 => m_gd (m_in v154 L9) (m_bw (f_L_append Z S130 a1 (xs9 v142.toNatClampNeg) (xs9 v145.toNatClampNeg) (xs9 v148.toNatClampNeg) (xs9 v151.toNatClampNeg) (xs9 v154.toNatClampNeg) a3) (fun v158 S157 => m_lt (v129 + (1 : Int32)) (fun v160 => m_gd (m_in v160 L9) (m_lt (v129 + (2 : Int32)) (fun v163 => m_gd (m_in v163 L9) (m_lt (v129 + (3 : Int32)) (fun v166 => m_gd (m_in v166 L9) (m_lt (v129 + (4 : Int32)) (fun v169 => m_gd (m_in v169 L9) (m_lt (v129 + (5 : Int32)) (fun v172 => m_gd (m_in v172 L9) (m_gd (m_ok Z a2 9) (m_bw (f_X9_append Z S157 a2 (xs9 v160.toNatClampNeg) (xs9 v163.toNatClampNeg) (xs9 v166.toNatClampNeg) (xs9 v169.toNatClampNeg) (xs9 v172.toNatClampNeg)) (fun v178 S177 => m_b1 (f_X9_thrown Z S177 a2) (fun v180 => (if v180 = v158 then (if ¬ v158 = 0 then m_lt (v129 + (6 : Int32)) (fun v183 => lp133 (v183, S177)) else m_gd (m_ok Z a3 12) (m_gd (m_in (0 : Int32) (Z.2.2 a3)) ((if (lg_cmp (S177.2.1 a3 (0 : Int32).toNatClampNeg) v178.toInt64) = 0 then m_lt (v129 + (6 : Int32)) (fun v188 => lp133 (v188, S177)) else j4 S177)))) else j6 S177))))))))))))))))))))))))) else (if v139 = Int32.ofNat 1 then m_lt (v129 + (1 : Int32)) (fun v191 => m_gd (m_in v191 L9) (m_bw (f_L_truncate Z S130 a1 (xs9 v191.toNatClampNeg) a3) (fun v195 S194 => m_lt (v129 + (1 : Int32)) (fun v197 => m_gd (m_in v197 L9) (m_gd (m_ok Z a2 9) (m_bw (f_X9_truncate Z S194 a2 (xs9 v197.toNatClampNeg)) (fun v203 S202 => m_b1 (f_X9_thrown Z S202 a2) (fun v205 => (if v205 = v195 then (if ¬ v195 = 0 then m_lt (v129 + (6 : Int32)) (fun v208 => lp133 (v208, S202)) else m_gd (m_ok Z a3 12) (m_gd (m_in (0 : Int32) (Z.2.2 a3)) ((if (lg_cmp (S202.2.1 a3 (0 : Int32).toNatClampNeg) v203.toInt64) = 0 then m_lt (v129 + (6 : Int32)) (fun v213 => lp133 (v213, S202)) else j8 S202)))) else j10 S202))))))))) else (if v139 = Int32.ofNat 2 then m_bw (f_L_load Z S130 a1 a3) (fun v217 S216 => m_gd (m_ok Z a2 9) (m_bw (f_X9_load Z S216 a2) (fun v222 S221 => m_b1 (f_X9_thrown Z S221 a2) (fun v224 => (if v224 = v217 then (if ¬ v217 = 0 then m_lt (v129 + (6 : Int32)) (fun v227 => lp133 (v227, S221)) else m_gd (m_ok Z a3 12) (m_gd (m_in (0 : Int32) (Z.2.2 a3)) ((if (lg_cmp (S221.2.1 a3 (0 : Int32).toNatClampNeg) v222.toInt64) = 0 then m_lt (v129 + (6 : Int32)) (fun v232 => lp133 (v232, S221)) else j12 S221)))) else j14 S221))))) else (if v139 = Int32.ofNat 3 then m_gd (m_ok Z a1 8) (m_b1 (f_X8_errorCode Z S130 a1) (fun v237 => m_gd (m_ok Z a2 9) (m_bw (f_X9_errorCode Z S130 a2) (fun v241 S240 => (if v237 = v241 then m_lt (v129 + (6 : Int32)) (fun v243 => lp133 (v243, S240)) else j16 S240))))) else (if v139 = Int32.ofNat 4 then m_gd (m_ok Z a1 8) (m_b1 (f_X8_errorPosition Z S130 a1) (fun v248 => m_gd (m_ok Z a2 9) (m_bw (f_X9_errorPosition Z S130 a2) (fun v252 S251 => (if v248 = v252 then m_lt (v129 + (6 : Int32)) (fun v254 => lp133 (v254, S251)) else j18 S251))))) else (if v139 = Int32.ofNat 5 then m_lt (v129 + (1 : Int32)) (fun v257 => m_gd (m_in v257 L9) (m_bw (f_L_report Z S130 a1 (xs9 v257.toNatClampNeg) a3) (fun v261 S260 => m_lt (v129 + (1 : Int32)) (fun v263 => m_gd (m_in v263 L9) (m_gd (m_ok Z a2 9) (m_bw (f_X9_report Z S260 a2 (xs9 v263.toNatClampNeg)) (fun v269 S268 => m_b1 (f_X9_thrown Z S268 a2) (fun v271 => (if v271 = v261 then (if ¬ v261 = 0 then m_lt (v129 + (6 : Int32)) (fun v274 => lp133 (v274, S268)) else m_gd (m_ok Z a3 12) (m_gd (m_in (0 : Int32) (Z.2.2 a3)) ((if (lg_cmp (S268.2.1 a3 (0 : Int32).toNatClampNeg) v269.toInt64) = 0 then m_lt (v129 + (6 : Int32)) (fun v279 => lp133 (v279, S268)) else j20 S268)))) else j22 S268))))))))) else (if v139 = Int32.ofNat 6 then m_lt (v129 + (1 : Int32)) (fun v282 => m_gd (m_in v282 L9) (m_bw (f_L_setPoint Z S130 a1 (xs9 v282.toNatClampNeg) a3) (fun v286 S285 => m_lt (v129 + (1 : Int32)) (fun v288 => m_gd (m_in v288 L9) (m_gd (m_ok Z a2 9) (m_bw (f_X9_setPoint Z S285 a2 (xs9 v288.toNatClampNeg)) (fun v294 S293 => m_b1 (f_X9_thrown Z S293 a2) (fun v296 => (if v296 = v286 then (if ¬ v286 = 0 then m_lt (v129 + (6 : Int32)) (fun v299 => lp133 (v299, S293)) else m_gd (m_ok Z a3 12) (m_gd (m_in (0 : Int32) (Z.2.2 a3)) ((if (lg_cmp (S293.2.1 a3 (0 : Int32).toNatClampNeg) v294.toInt64) = 0 then m_lt (v129 + (6 : Int32)) (fun v304 => lp133 (v304, S293)) else j24 S293)))) else j26 S293))))))))) else (if v139 = Int32.ofNat 7 then m_lt (v129 + (1 : Int32)) (fun v307 => m_gd (m_in v307 L9) (m_bw (f_L_visitors Z S130 a1 (xs9 v307.toNatClampNeg) a3) (fun v311 S310 => m_lt (v129 + (1 : Int32)) (fun v313 => m_gd (m_in v313 L9) (m_gd (m_ok Z a2 9) (m_bw (f_X9_visitors_ Z S310 a2 (xs9 v313.toNatClampNeg)) (fun v319 S318 => m_b1 (f_X9_thrown Z S318 a2) (fun v321 => (if v321 = v311 then (if ¬ v311 = 0 then m_lt (v129 + (6 : Int32)) (fun v324 => lp133 (v324, S318)) else m_gd (m_ok Z a3 12) (m_gd (m_in (0 : Int32) (Z.2.2 a3)) ((if (lg_cmp (S318.2.1 a3 (0 : Int32).toNatClampNeg) v319.toInt64) = 0 then m_lt (v129 + (6 : Int32)) (fun v329 => lp133 (v329, S318)) else j28 S318)))) else j30 S318))))))))) else (if v139 = Int32.ofNat 8 then m_lt (v129 + (1 : Int32)) (fun v332 => m_gd (m_in v332 L9) (m_lt (v129 + (2 : Int32)) (fun v335 => m_gd (m_in v335 L9) (m_bw (f_L_content Z S130 a1 (xs9 v332.toNatClampNeg) (xs9 v335.toNatClampNeg) a3) (fun v339 S338 => m_lt (v129 + (1 : Int32)) (fun v341 => m_gd (m_in v341 L9) (m_lt (v129 + (2 : Int32)) (fun v344 => m_gd (m_in v344 L9) (m_gd (m_ok Z a2 9) (m_bw (f_X9_content Z S338 a2 (xs9 v341.toNatClampNeg) (xs9 v344.toNatClampNeg)) (fun v350 S349 => m_b1 (f_X9_thrown Z S349 a2) (fun v352 => (if v352 = v339 then (if ¬ v339 = 0 then m_lt (v129 + (6 : Int32)) (fun v355 => lp133 (v355, S349)) else m_gd (m_ok Z a3 12) (m_gd (m_in (0 : Int32) (Z.2.2 a3)) ((if (lg_cmp (S349.2.1 a3 (0 : Int32).toNatClampNeg) v350.toInt64) = 0 then m_lt (v129 + (6 : Int32)) (fun v360 => lp133 (v360, S349)) else j32 S349)))) else j34 S349))))))))))))) else (if v139 = Int32.ofNat 9 then m_lt (v129 + (1 : Int32)) (fun v363 => m_gd (m_in v363 L9) (m_bw (f_L_announce Z S130 a1 (xs9 v363.toNatClampNeg) a3) (fun v367 S366 => m_lt (v129 + (1 : Int32)) (fun v369 => m_gd (m_in v369 L9) (m_gd (m_ok Z a2 9) (m_bw (f_X9_announce Z S366 a2 (xs9 v369.toNatClampNeg)) (fun v375 S374 => m_b1 (f_X9_thrown Z S374 a2) (fun v377 => (if v377 = v367 then (if ¬ v367 = 0 then m_lt (v129 + (6 : Int32)) (fun v380 => lp133 (v380, S374)) else m_gd (m_ok Z a3 12) (m_gd (m_in (0 : Int32) (Z.2.2 a3)) ((if (lg_cmp (S374.2.1 a3 (0 : Int32).toNatClampNeg) v375.toInt64) = 0 then m_lt (v129 + (6 : Int32)) (fun v385 => lp133 (v385, S374)) else j36 S374)))) else j38 S374))))))))) else (if v139 = Int32.ofNat 10 then m_lt (v129 + (1 : Int32)) (fun v388 => m_gd (m_in v388 L9) (m_lt (v129 + (2 : Int32)) (fun v391 => m_gd (m_in v391 L9) (m_bw (f_L_displayCase Z S130 a1 (xs9 v388.toNatClampNeg) (xs9 v391.toNatClampNeg) a3) (fun v395 S394 => m_lt (v129 + (1 : Int32)) (fun v397 => m_gd (m_in v397 L9) (m_lt (v129 + (2 : Int32)) (fun v400 => m_gd (m_in v400 L9) (m_gd (m_ok Z a2 9) (m_bw (f_X9_displayCase Z S394 a2 (xs9 v397.toNatClampNeg) (xs9 v400.toNatClampNeg)) (fun v406 S405 => m_b1 (f_X9_thrown Z S405 a2) (fun v408 => (if v408 = v395 then (if ¬ v395 = 0 then m_lt (v129 + (6 : Int32)) (fun v411 => lp133 (v411, S405)) else m_gd (m_ok Z a3 12) (m_gd (m_in (0 : Int32) (Z.2.2 a3)) ((if (lg_cmp (S405.2.1 a3 (0 : Int32).toNatClampNeg) v406.toInt64) = 0 then m_lt (v129 + (6 : Int32)) (fun v416 => lp133 (v416, S405)) else j40 S405)))) else j42 S405))))))))))))) else (if v139 = Int32.ofNat 11 then m_lt (v129 + (1 : Int32)) (fun v419 => m_gd (m_in v419 L9) (m_lt (v129 + (2 : Int32)) (fun v422 => m_gd (m_in v422 L9) (m_bw (f_L_balance Z S130 a1 (xs9 v419.toNatClampNeg) (xs9 v422.toNatClampNeg) a3) (fun v426 S425 => m_lt (v129 + (1 : Int32)) (fun v428 => m_gd (m_in v428 L9) (m_lt (v129 + (2 : Int32)) (fun v431 => m_gd (m_in v431 L9) (m_gd (m_ok Z a2 9) (m_bw (f_X9_balance Z S425 a2 (xs9 v428.toNatClampNeg) (xs9 v431.toNatClampNeg)) (fun w437 S436 => m_b1 (f_X9_thrown Z S436 a2) (fun v439 => (if v439 = v426 then (if ¬ v426 = 0 then m_lt (v129 + (6 : Int32)) (fun v442 => lp133 (v442, S436)) else m_gd (m_ok Z a3 12) (m_gd (m_in (0 : Int32) (Z.2.2 a3)) ((if (lg_cmp (S436.2.1 a3 (0 : Int32).toNatClampNeg) w437) = 0 then m_lt (v129 + (6 : Int32)) (fun v447 => lp133 (v447, S436)) else j44 S436)))) else j46 S436))))))))))))) else (if v139 = Int32.ofNat 12 then m_lt (v129 + (1 : Int32)) (fun v450 => m_gd (m_in v450 L9) (m_lt (v129 + (2 : Int32)) (fun v453 => m_gd (m_in v453 L9) (m_bw (f_L_recorded Z S130 a1 (xs9 v450.toNatClampNeg) (xs9 v453.toNatClampNeg) a3) (fun v457 S456 => m_lt (v129 + (1 : Int32)) (fun v459 => m_gd (m_in v459 L9) (m_lt (v129 + (2 : Int32)) (fun v462 => m_gd (m_in v462 L9) (m_gd (m_ok Z a2 9) (m_bw (f_X9_recorded Z S456 a2 (xs9 v459.toNatClampNeg) (xs9 v462.toNatClampNeg)) (fun v468 S467 => m_b1 (f_X9_thrown Z S467 a2) (fun v470 => (if v470 = v457 then (if ¬ v457 = 0 then m_lt (v129 + (6 : Int32)) (fun v473 => lp133 (v473, S467)) else m_gd (m_ok Z a3 12) (m_gd (m_in (0 : Int32) (Z.2.2 a3)) ((if (lg_cmp (S467.2.1 a3 (0 : Int32).toNatClampNeg) v468.toInt64) = 0 then m_lt (v129 + (6 : Int32)) (fun v478 => lp133 (v478, S467)) else j48 S467)))) else j50 S467))))))))))))) else (if v139 = Int32.ofNat 13 then m_lt (v129 + (1 : Int32)) (fun v481 => m_gd (m_in v481 L9) (m_bw (f_L_swing Z S130 a1 (xs9 v481.toNatClampNeg) a3) (fun v485 S484 => m_lt (v129 + (1 : Int32)) (fun v487 => m_gd (m_in v487 L9) (m_gd (m_ok Z a2 9) (m_bw (f_X9_swing Z S484 a2 (xs9 v487.toNatClampNeg)) (fun v493 S492 => m_b1 (f_X9_thrown Z S492 a2) (fun v495 => (if v495 = v485 then (if ¬ v485 = 0 then m_lt (v129 + (6 : Int32)) (fun v498 => lp133 (v498, S492)) else m_gd (m_ok Z a3 12) (m_gd (m_in (0 : Int32) (Z.2.2 a3)) ((if (lg_cmp (S492.2.1 a3 (0 : Int32).toNatClampNeg) v493.toInt64) = 0 then m_lt (v129 + (6 : Int32)) (fun v503 => lp133 (v503, S492)) else j52 S492)))) else j54 S492))))))))) else (if v139 = Int32.ofNat 14 then m_lt (v129 + (1 : Int32)) (fun v506 => m_gd (m_in v506 L9) (m_bw (f_L_mean Z S130 a1 (xs9 v506.toNatClampNeg) a4) (fun v510 S509 => m_lt (v129 + (1 : Int32)) (fun v512 => m_gd (m_in v512 L9) (m_gd (m_ok Z a2 9) (m_bw (f_X9_mean Z S509 a2 (xs9 v512.toNatClampNeg)) (fun d518 S517 => m_b1 (f_X9_thrown Z S517 a2) (fun v520 => (if v520 = v510 then (if ¬ v510 = 0 then m_lt (v129 + (6 : Int32)) (fun v523 => lp133 (v523, S517)) else m_gd (m_ok Z a4 19) (m_gd (m_in (0 : Int32) (Z.2.2 a4)) ((if (Op.cmpValue (FP.dcmp ((S517.2.1 a4 (0 : Int32).toNatClampNeg).toUInt64) d518) CmpOp.l) = 0 then m_lt (v129 + (6 : Int32)) (fun v528 => lp133 (v528, S517)) else m_gd (m_in (0 : Int32) (Z.2.2 a4)) (m_gd (m_in (0 : Int32) (Z.2.2 a4)) ((if (Op.cmpValue (FP.dcmp ((S517.2.1 a4 (0 : Int32).toNatClampNeg).toUInt64) ((S517.2.1 a4 (0 : Int32).toNatClampNeg).toUInt64)) CmpOp.l) = 0 then j56 S517 else (if ¬ (Op.cmpValue (FP.dcmp d518 d518) CmpOp.l) = 0 then m_lt (v129 + (6 : Int32)) (fun v534 => lp133 (v534, S517)) else j56 S517)))))))) else j58 S517))))))))) else (if v139 = Int32.ofNat 15 then m_lt (v129 + (1 : Int32)) (fun v537 => m_gd (m_in v537 L9) (m_bw (f_L_buffering Z S130 a1 (xs9 v537.toNatClampNeg) a4) (fun v541 S540 => m_lt (v129 + (1 : Int32)) (fun v543 => m_gd (m_in v543 L9) (m_gd (m_ok Z a2 9) (m_bw (f_X9_buffering Z S540 a2 (xs9 v543.toNatClampNeg)) (fun d549 S548 => m_b1 (f_X9_thrown Z S548 a2) (fun v551 => (if v551 = v541 then (if ¬ v541 = 0 then m_lt (v129 + (6 : Int32)) (fun v554 => lp133 (v554, S548)) else m_gd (m_ok Z a4 19) (m_gd (m_in (0 : Int32) (Z.2.2 a4)) ((if (Op.cmpValue (FP.dcmp ((S548.2.1 a4 (0 : Int32).toNatClampNeg).toUInt64) d549) CmpOp.l) = 0 then m_lt (v129 + (6 : Int32)) (fun v559 => lp133 (v559, S548)) else m_gd (m_in (0 : Int32) (Z.2.2 a4)) (m_gd (m_in (0 : Int32) (Z.2.2 a4)) ((if (Op.cmpValue (FP.dcmp ((S548.2.1 a4 (0 : Int32).toNatClampNeg).toUInt64) ((S548.2.1 a4 (0 : Int32).toNatClampNeg).toUInt64)) CmpOp.l) = 0 then j60 S548 else (if ¬ (Op.cmpValue (FP.dcmp d549 d549) CmpOp.l) = 0 then m_lt (v129 + (6 : Int32)) (fun v565 => lp133 (v565, S548)) else j60 S548)))))))) else j62 S548))))))))) else (if v139 = Int32.ofNat 16 then m_lt (v129 + (1 : Int32)) (fun v568 => m_gd (m_in v568 L9) (m_lt (v129 + (2 : Int32)) (fun v571 => m_gd (m_in v571 L9) (m_bw (f_L_setLeak Z S130 a1 (xs9 v568.toNatClampNeg) (xs9 v571.toNatClampNeg) a3) (fun v575 S574 => m_lt (v129 + (1 : Int32)) (fun v577 => m_gd (m_in v577 L9) (m_lt (v129 + (2 : Int32)) (fun v580 => m_gd (m_in v580 L9) (m_gd (m_ok Z a2 9) (m_bw (f_X9_setLeak Z S574 a2 (xs9 v577.toNatClampNeg) (xs9 v580.toNatClampNeg)) (fun v586 S585 => m_b1 (f_X9_thrown Z S585 a2) (fun v588 => (if v588 = v575 then (if ¬ v575 = 0 then m_lt (v129 + (6 : Int32)) (fun v591 => lp133 (v591, S585)) else m_gd (m_ok Z a3 12) (m_gd (m_in (0 : Int32) (Z.2.2 a3)) ((if (lg_cmp (S585.2.1 a3 (0 : Int32).toNatClampNeg) v586.toInt64) = 0 then m_lt (v129 + (6 : Int32)) (fun v596 => lp133 (v596, S585)) else j64 S585)))) else j66 S585))))))))))))) else (if v139 = Int32.ofNat 17 then m_lt (v129 + (1 : Int32)) (fun v599 => m_gd (m_in v599 L9) (m_lt (v129 + (2 : Int32)) (fun v602 => m_gd (m_in v602 L9) (m_lt (v129 + (3 : Int32)) (fun v605 => m_gd (m_in v605 L9) (m_bw (f_L_setSafe Z S130 a1 (xs9 v599.toNatClampNeg) (xs9 v602.toNatClampNeg) (xs9 v605.toNatClampNeg)) (fun v609 S608 => m_lt (v129 + (1 : Int32)) (fun v611 => m_gd (m_in v611 L9) (m_lt (v129 + (2 : Int32)) (fun v614 => m_gd (m_in v614 L9) (m_lt (v129 + (3 : Int32)) (fun v617 => m_gd (m_in v617 L9) (m_gd (m_ok Z a2 9) (m_bw (f_X9_setSafe Z S608 a2 (xs9 v611.toNatClampNeg) (xs9 v614.toNatClampNeg) (xs9 v617.toNatClampNeg)) (fun _u S622 => m_b1 (f_X9_thrown Z S622 a2) (fun v624 => (if v624 = v609 then m_lt (v129 + (6 : Int32)) (fun v626 => lp133 (v626, S622)) else j68 S622))))))))))))))))) else (if v139 = Int32.ofNat 18 then m_lt (v129 + (1 : Int32)) (fun v629 => m_gd (m_in v629 L9) (m_bw (f_L_open Z S130 a1 (xs9 v629.toNatClampNeg) a3) (fun v633 S632 => m_lt (v129 + (1 : Int32)) (fun v635 => m_gd (m_in v635 L9) (m_gd (m_ok Z a2 9) (m_bw (f_X9_open Z S632 a2 (xs9 v635.toNatClampNeg)) (fun v641 S640 => m_b1 (f_X9_thrown Z S640 a2) (fun v643 => (if v643 = v633 then (if ¬ v633 = 0 then m_lt (v129 + (6 : Int32)) (fun v646 => lp133 (v646, S640)) else m_gd (m_ok Z a3 12) (m_gd (m_in (0 : Int32) (Z.2.2 a3)) ((if (lg_cmp (S640.2.1 a3 (0 : Int32).toNatClampNeg) v641.toInt64) = 0 then m_lt (v129 + (6 : Int32)) (fun v651 => lp133 (v651, S640)) else j70 S640)))) else j72 S640))))))))) else (if v139 = Int32.ofNat 19 then m_lt (v129 + (1 : Int32)) (fun v654 => m_gd (m_in v654 L9) (m_lt (v129 + (2 : Int32)) (fun v657 => m_gd (m_in v657 L9) (m_lt (v129 + (3 : Int32)) (fun v660 => m_gd (m_in v660 L9) (m_bw (f_L_cassette Z S130 a1 (xs9 v654.toNatClampNeg) (xs9 v657.toNatClampNeg) (xs9 v660.toNatClampNeg) a3) (fun v664 S663 => m_lt (v129 + (1 : Int32)) (fun v666 => m_gd (m_in v666 L9) (m_lt (v129 + (2 : Int32)) (fun v669 => m_gd (m_in v669 L9) (m_lt (v129 + (3 : Int32)) (fun v672 => m_gd (m_in v672 L9) (m_gd (m_ok Z a2 9) (m_bw (f_X9_cassette Z S663 a2 (xs9 v666.toNatClampNeg) (xs9 v669.toNatClampNeg) (xs9 v672.toNatClampNeg)) (fun v678 S677 => m_b1 (f_X9_thrown Z S677 a2) (fun v680 => (if v680 = v664 then (if ¬ v664 = 0 then m_lt (v129 + (6 : Int32)) (fun v683 => lp133 (v683, S677)) else m_gd (m_ok Z a3 12) (m_gd (m_in (0 : Int32) (Z.2.2 a3)) ((if (lg_cmp (S677.2.1 a3 (0 : Int32).toNatClampNeg) v678.toInt64) = 0 then m_lt (v129 + (6 : Int32)) (fun v688 => lp133 (v688, S677)) else j74 S677)))) else j76 S677))))))))))))))))) else (if v139 = Int32.ofNat 20 then m_lt (v129 + (1 : Int32)) (fun v691 => m_gd (m_in v691 L9) (m_bw (f_L_caseOf Z S130 a1 (xs9 v691.toNatClampNeg) a3) (fun v695 S694 => m_lt (v129 + (1 : Int32)) (fun v697 => m_gd (m_in v697 L9) (m_gd (m_ok Z a2 9) (m_bw (f_X9_caseOf Z S694 a2 (xs9 v697.toNatClampNeg)) (fun v703 S702 => m_b1 (f_X9_thrown Z S702 a2) (fun v705 => (if v705 = v695 then (if ¬ v695 = 0 then m_lt (v129 + (6 : Int32)) (fun v708 => lp133 (v708, S702)) else m_gd (m_ok Z a3 12) (m_gd (m_in (0 : Int32) (Z.2.2 a3)) ((if (lg_cmp (S702.2.1 a3 (0 : Int32).toNatClampNeg) v703.toInt64) = 0 then m_lt (v129 + (6 : Int32)) (fun v713 => lp133 (v713, S702)) else j78 S702)))) else j80 S702))))))))) else (if v139 = Int32.ofNat 21 then m_lt (v129 + (1 : Int32)) (fun v716 => m_gd (m_in v716 L9) (m_lt (v129 + (2 : Int32)) (fun v719 => m_gd (m_in v719 L9) (m_lt (v129 + (3 : Int32)) (fun v722 => m_gd (m_in v722 L9) (m_lt (v129 + (4 : Int32)) (fun v725 => m_gd (m_in v725 L9) (m_bw (f_L_add Z S130 a1 (xs9 v716.toNatClampNeg) (xs9 v719.toNatClampNeg) (xs9 v722.toNatClampNeg) (xs9 v725.toNatClampNeg) a3) (fun v729 S728 => m_lt (v129 + (1 : Int32)) (fun v731 => m_gd (m_in v731 L9) (m_lt (v129 + (2 : Int32)) (fun v734 => m_gd (m_in v734 L9) (m_lt (v129 + (3 : Int32)) (fun v737 => m_gd (m_in v737 L9) (m_lt (v129 + (4 : Int32)) (fun v740 => m_gd (m_in v740 L9) (m_gd (m_ok Z a2 9) (m_bw (f_X9_add Z S728 a2 (xs9 v731.toNatClampNeg) (xs9 v734.toNatClampNeg) (xs9 v737.toNatClampNeg) (xs9 v740.toNatClampNeg)) (fun v746 S745 => m_b1 (f_X9_thrown Z S745 a2) (fun v748 => (if v748 = v729 then (if ¬ v729 = 0 then m_lt (v129 + (6 : Int32)) (fun v751 => lp133 (v751, S745)) else m_gd (m_ok Z a3 12) (m_gd (m_in (0 : Int32) (Z.2.2 a3)) ((if (lg_cmp (S745.2.1 a3 (0 : Int32).toNatClampNeg) v746.toInt64) = 0 then m_lt (v129 + (6 : Int32)) (fun v756 => lp133 (v756, S745)) else j82 S745)))) else j84 S745))))))))))))))))))))) else (if v139 = Int32.ofNat 22 then m_lt (v129 + (1 : Int32)) (fun v759 => m_gd (m_in v759 L9) (m_bw (f_L_remove Z S130 a1 (xs9 v759.toNatClampNeg) a3) (fun v763 S762 => m_lt (v129 + (1 : Int32)) (fun v765 => m_gd (m_in v765 L9) (m_gd (m_ok Z a2 9) (m_bw (f_X9_remove Z S762 a2 (xs9 v765.toNatClampNeg)) (fun v771 S770 => m_b1 (f_X9_thrown Z S770 a2) (fun v773 => (if v773 = v763 then (if ¬ v763 = 0 then m_lt (v129 + (6 : Int32)) (fun v776 => lp133 (v776, S770)) else m_gd (m_ok Z a3 12) (m_gd (m_in (0 : Int32) (Z.2.2 a3)) ((if (lg_cmp (S770.2.1 a3 (0 : Int32).toNatClampNeg) v771.toInt64) = 0 then m_lt (v129 + (6 : Int32)) (fun v781 => lp133 (v781, S770)) else j86 S770)))) else j88 S770))))))))) else (if v139 = Int32.ofNat 23 then m_lt (v129 + (1 : Int32)) (fun v784 => m_gd (m_in v784 L9) (m_lt (v129 + (2 : Int32)) (fun v787 => m_gd (m_in v787 L9) (m_bw (f_L_move Z S130 a1 (xs9 v784.toNatClampNeg) (xs9 v787.toNatClampNeg) a3) (fun v791 S790 => m_lt (v129 + (1 : Int32)) (fun v793 => m_gd (m_in v793 L9) (m_lt (v129 + (2 : Int32)) (fun v796 => m_gd (m_in v796 L9) (m_gd (m_ok Z a2 9) (m_bw (f_X9_move Z S790 a2 (xs9 v793.toNatClampNeg) (xs9 v796.toNatClampNeg)) (fun v802 S801 => m_b1 (f_X9_thrown Z S801 a2) (fun v804 => (if v804 = v791 then (if ¬ v791 = 0 then m_lt (v129 + (6 : Int32)) (fun v807 => lp133 (v807, S801)) else m_gd (m_ok Z a3 12) (m_gd (m_in (0 : Int32) (Z.2.2 a3)) ((if (lg_cmp (S801.2.1 a3 (0 : Int32).toNatClampNeg) v802.toInt64) = 0 then m_lt (v129 + (6 : Int32)) (fun v812 => lp133 (v812, S801)) else j90 S801)))) else j92 S801))))))))))))) else (if v139 = Int32.ofNat 24 then m_lt (v129 + (1 : Int32)) (fun v815 => m_gd (m_in v815 L9) (m_lt (v129 + (2 : Int32)) (fun v818 => m_gd (m_in v818 L9) (m_bw (f_L_exchange Z S130 a1 (xs9 v815.toNatClampNeg) (xs9 v818.toNatClampNeg) a3) (fun v822 S821 => m_lt (v129 + (1 : Int32)) (fun v824 => m_gd (m_in v824 L9) (m_lt (v129 + (2 : Int32)) (fun v827 => m_gd (m_in v827 L9) (m_gd (m_ok Z a2 9) (m_bw (f_X9_exchange Z S821 a2 (xs9 v824.toNatClampNeg) (xs9 v827.toNatClampNeg)) (fun v833 S832 => m_b1 (f_X9_thrown Z S832 a2) (fun v835 => (if v835 = v822 then (if ¬ v822 = 0 then m_lt (v129 + (6 : Int32)) (fun v838 => lp133 (v838, S832)) else m_gd (m_ok Z a3 12) (m_gd (m_in (0 : Int32) (Z.2.2 a3)) ((if (lg_cmp (S832.2.1 a3 (0 : Int32).toNatClampNeg) v833.toInt64) = 0 then m_lt (v129 + (6 : Int32)) (fun v843 => lp133 (v843, S832)) else j94 S832)))) else j96 S832))))))))))))) else (if v139 = Int32.ofNat 25 then m_lt (v129 + (1 : Int32)) (fun v846 => m_gd (m_in v846 L9) (m_bw (f_L_advance Z S130 a1 (xs9 v846.toNatClampNeg) a3) (fun v850 S849 => m_lt (v129 + (1 : Int32)) (fun v852 => m_gd (m_in v852 L9) (m_gd (m_ok Z a2 9) (m_bw (f_X9_advance Z S849 a2 (xs9 v852.toNatClampNeg)) (fun v858 S857 => m_b1 (f_X9_thrown Z S857 a2) (fun v860 => (if v860 = v850 then (if ¬ v850 = 0 then m_lt (v129 + (6 : Int32)) (fun v863 => lp133 (v863, S857)) else m_gd (m_ok Z a3 12) (m_gd (m_in (0 : Int32) (Z.2.2 a3)) ((if (lg_cmp (S857.2.1 a3 (0 : Int32).toNatClampNeg) v858.toInt64) = 0 then m_lt (v129 + (6 : Int32)) (fun v868 => lp133 (v868, S857)) else j98 S857)))) else j100 S857))))))))) else (if v139 = Int32.ofNat 26 then m_lt (v129 + (1 : Int32)) (fun v871 => m_gd (m_in v871 L9) (m_bw (f_L_roomIn Z S130 a1 (xs9 v871.toNatClampNeg) a3) (fun v875 S874 => m_lt (v129 + (1 : Int32)) (fun v877 => m_gd (m_in v877 L9) (m_gd (m_ok Z a2 9) (m_bw (f_X9_roomIn Z S874 a2 (xs9 v877.toNatClampNeg)) (fun v883 S882 => m_b1 (f_X9_thrown Z S882 a2) (fun v885 => (if v885 = v875 then (if ¬ v875 = 0 then m_lt (v129 + (6 : Int32)) (fun v888 => lp133 (v888, S882)) else m_gd (m_ok Z a3 12) (m_gd (m_in (0 : Int32) (Z.2.2 a3)) ((if (lg_cmp (S882.2.1 a3 (0 : Int32).toNatClampNeg) v883.toInt64) = 0 then m_lt (v129 + (6 : Int32)) (fun v893 => lp133 (v893, S882)) else j102 S882)))) else j104 S882))))))))) else (if v139 = Int32.ofNat 27 then m_lt (v129 + (1 : Int32)) (fun v896 => m_gd (m_in v896 L9) (m_lt (v129 + (2 : Int32)) (fun v899 => m_gd (m_in v899 L9) (m_bw (f_L_humidityIn Z S130 a1 (xs9 v896.toNatClampNeg) (xs9 v899.toNatClampNeg) a3) (fun v903 S902 => m_lt (v129 + (1 : Int32)) (fun v905 => m_gd (m_in v905 L9) (m_lt (v129 + (2 : Int32)) (fun v908 => m_gd (m_in v908 L9) (m_gd (m_ok Z a2 9) (m_bw (f_X9_humidityIn Z S902 a2 (xs9 v905.toNatClampNeg) (xs9 v908.toNatClampNeg)) (fun v914 S913 => m_b1 (f_X9_thrown Z S913 a2) (fun v916 => (if v916 = v903 then (if ¬ v903 = 0 then m_lt (v129 + (6 : Int32)) (fun v919 => lp133 (v919, S913)) else m_gd (m_ok Z a3 12) (m_gd (m_in (0 : Int32) (Z.2.2 a3)) ((if (lg_cmp (S913.2.1 a3 (0 : Int32).toNatClampNeg) v914.toInt64) = 0 then m_lt (v129 + (6 : Int32)) (fun v924 => lp133 (v924, S913)) else j106 S913)))) else j108 S913))))))))))))) else (if v139 = Int32.ofNat 28 then m_lt (v129 + (1 : Int32)) (fun v927 => m_gd (m_in v927 L9) (m_bw (f_L_unsafeIn Z S130 a1 (xs9 v927.toNatClampNeg) a3) (fun v931 S930 => m_lt (v129 + (1 : Int32)) (fun v933 => m_gd (m_in v933 L9) (m_gd (m_ok Z a2 9) (m_bw (f_X9_unsafeIn Z S930 a2 (xs9 v933.toNatClampNeg)) (fun v939 S938 => m_b1 (f_X9_thrown Z S938 a2) (fun v941 => (if v941 = v931 then (if ¬ v931 = 0 then m_lt (v129 + (6 : Int32)) (fun v944 => lp133 (v944, S938)) else m_gd (m_ok Z a3 12) (m_gd (m_in (0 : Int32) (Z.2.2 a3)) ((if (lg_cmp (S938.2.1 a3 (0 : Int32).toNatClampNeg) v939.toInt64) = 0 then m_lt (v129 + (6 : Int32)) (fun v949 => lp133 (v949, S938)) else j110 S938)))) else j112 S938))))))))) else (if v139 = Int32.ofNat 29 then m_lt (v129 + (1 : Int32)) (fun v952 => m_gd (m_in v952 L9) (m_bw (f_L_restOf Z S130 a1 (xs9 v952.toNatClampNeg) a3) (fun v956 S955 => m_lt (v129 + (1 : Int32)) (fun v958 => m_gd (m_in v958 L9) (m_gd (m_ok Z a2 9) (m_bw (f_X9_restOf Z S955 a2 (xs9 v958.toNatClampNeg)) (fun v964 S963 => m_b1 (f_X9_thrown Z S963 a2) (fun v966 => (if v966 = v956 then (if ¬ v956 = 0 then m_lt (v129 + (6 : Int32)) (fun v969 => lp133 (v969, S963)) else m_gd (m_ok Z a3 12) (m_gd (m_in (0 : Int32) (Z.2.2 a3)) ((if (lg_cmp (S963.2.1 a3 (0 : Int32).toNatClampNeg) v964.toInt64) = 0 then m_lt (v129 + (6 : Int32)) (fun v974 => lp133 (v974, S963)) else j114 S963)))) else j116 S963))))))))) else (if v139 = Int32.ofNat 30 then m_lt (v129 + (1 : Int32)) (fun v977 => m_gd (m_in v977 L9) (m_lt (v129 + (2 : Int32)) (fun v980 => m_gd (m_in v980 L9) (m_lt (v129 + (3 : Int32)) (fun v983 => m_gd (m_in v983 L9) (m_lt (v129 + (4 : Int32)) (fun v986 => m_gd (m_in v986 L9) (m_bw (f_L_massFor Z S130 a1 (xs9 v977.toNatClampNeg) (xs9 v980.toNatClampNeg) (xs9 v983.toNatClampNeg) (xs9 v986.toNatClampNeg) a3) (fun v990 S989 => m_lt (v129 + (1 : Int32)) (fun v992 => m_gd (m_in v992 L9) (m_lt (v129 + (2 : Int32)) (fun v995 => m_gd (m_in v995 L9) (m_lt (v129 + (3 : Int32)) (fun v998 => m_gd (m_in v998 L9) (m_lt (v129 + (4 : Int32)) (fun v1001 => m_gd (m_in v1001 L9) (m_gd (m_ok Z a2 9) (m_bw (f_X9_massFor Z S989 a2 (xs9 v992.toNatClampNeg) (xs9 v995.toNatClampNeg) (xs9 v998.toNatClampNeg) (xs9 v1001.toNatClampNeg)) (fun v1007 S1006 => m_b1 (f_X9_thrown Z S1006 a2) (fun v1009 => (if v1009 = v990 then (if ¬ v990 = 0 then m_lt (v129 + (6 : Int32)) (fun v1012 => lp133 (v1012, S1006)) else m_gd (m_ok Z a3 12) (m_gd (m_in (0 : Int32) (Z.2.2 a3)) ((if (lg_cmp (S1006.2.1 a3 (0 : Int32).toNatClampNeg) v1007.toInt64) = 0 then m_lt (v129 + (6 : Int32)) (fun v1017 => lp133 (v1017, S1006)) else j118 S1006)))) else j120 S1006))))))))))))))))))))) else (if v139 = Int32.ofNat 31 then m_lt (v129 + (1 : Int32)) (fun v1020 => m_gd (m_in v1020 L9) (m_lt (v129 + (2 : Int32)) (fun v1023 => m_gd (m_in v1023 L9) (m_bw (f_L_bestFor Z S130 a1 (xs9 v1020.toNatClampNeg) (xs9 v1023.toNatClampNeg) a3) (fun v1027 S1026 => m_lt (v129 + (1 : Int32)) (fun v1029 => m_gd (m_in v1029 L9) (m_lt (v129 + (2 : Int32)) (fun v1032 => m_gd (m_in v1032 L9) (m_gd (m_ok Z a2 9) (m_bw (f_X9_bestFor Z S1026 a2 (xs9 v1029.toNatClampNeg) (xs9 v1032.toNatClampNeg)) (fun v1038 S1037 => m_b1 (f_X9_thrown Z S1037 a2) (fun v1040 => (if v1040 = v1027 then (if ¬ v1027 = 0 then m_lt (v129 + (6 : Int32)) (fun v1043 => lp133 (v1043, S1037)) else m_gd (m_ok Z a3 12) (m_gd (m_in (0 : Int32) (Z.2.2 a3)) ((if (lg_cmp (S1037.2.1 a3 (0 : Int32).toNatClampNeg) v1038.toInt64) = 0 then m_lt (v129 + (6 : Int32)) (fun v1048 => lp133 (v1048, S1037)) else j122 S1037)))) else j124 S1037))))))))))))) else (if v139 = Int32.ofNat 32 then m_lt (v129 + (1 : Int32)) (fun v1051 => m_gd (m_in v1051 L9) (m_bw (f_L_save Z S130 a1 (xs9 v1051.toNatClampNeg)) (fun v1055 S1054 => m_lt (v129 + (1 : Int32)) (fun v1057 => m_gd (m_in v1057 L9) (m_gd (m_ok Z a2 9) (m_bw (f_X9_save Z S1054 a2 (xs9 v1057.toNatClampNeg)) (fun _u S1062 => m_b1 (f_X9_thrown Z S1062 a2) (fun v1064 => (if v1064 = v1055 then m_lt (v129 + (6 : Int32)) (fun v1066 => lp133 (v1066, S1062)) else j126 S1062))))))))) else (if v139 = Int32.ofNat 33 then m_lt (v129 + (1 : Int32)) (fun v1069 => m_gd (m_in v1069 L9) (m_bw (f_L_restore Z S130 a1 (xs9 v1069.toNatClampNeg)) (fun v1073 S1072 => m_lt (v129 + (1 : Int32)) (fun v1075 => m_gd (m_in v1075 L9) (m_gd (m_ok Z a2 9) (m_bw (f_X9_restore Z S1072 a2 (xs9 v1075.toNatClampNeg)) (fun _u S1080 => m_b1 (f_X9_thrown Z S1080 a2) (fun v1082 => (if v1082 = v1073 then m_lt (v129 + (6 : Int32)) (fun v1084 => lp133 (v1084, S1080)) else j128 S1080))))))))) else m_lt (v129 + (6 : Int32)) (fun v1086 => lp133 (v1086, S130)))))))))))))))))))))))))))))))))))))))
def f_L_law (Z : m_Z) (S : m_S) (L9 : Nat) (xs9 : Nat → Int32) (a1 a2 a3 a4 : Nat) (p5 : Int32) : Option Unit := m_jp (fun (S1 : m_S) => some ()) (fun j2 => m_jp (fun (S3 : m_S) => none) (fun j4 => m_jp (fun (S5 : m_S) => none) (fun j6 => m_jp (fun (S7 : m_S) => none) (fun j8 => m_jp (fun (S9 : m_S) => none) (fun j10 => m_jp (fun (S11 : m_S) => none) (fun j12 => m_jp (fun (S13 : m_S) => none) (fun j14 => m_jp (fun (S15 : m_S) => none) (fun j16 => m_jp (fun (S17 : m_S) => none) (fun j18 => m_jp (fun (S19 : m_S) => none) (fun j20 => m_jp (fun (S21 : m_S) => none) (fun j22 => m_jp (fun (S23 : m_S) => none) (fun j24 => m_jp (fun (S25 : m_S) => none) (fun j26 => m_jp (fun (S27 : m_S) => none) (fun j28 => m_jp (fun (S29 : m_S) => none) (fun j30 => m_jp (fun (S31 : m_S) => none) (fun j32 => m_jp (fun (S33 : m_S) => none) (fun j34 => m_jp (fun (S35 : m_S) => none) (fun j36 => m_jp (fun (S37 : m_S) => none) (fun j38 => m_jp (fun (S39 : m_S) => none) (fun j40 => m_jp (fun (S41 : m_S) => none) (fun j42 => m_jp (fun (S43 : m_S) => none) (fun j44 => m_jp (fun (S45 : m_S) => none) (fun j46 => m_jp (fun (S47 : m_S) => none) (fun j48 => m_jp (fun (S49 : m_S) => none) (fun j50 => m_jp (fun (S51 : m_S) => none) (fun j52 => m_jp (fun (S53 : m_S) => none) (fun j54 => m_jp (fun (S55 : m_S) => none) (fun j56 => m_jp (fun (S57 : m_S) => none) (fun j58 => m_jp (fun (S59 : m_S) => none) (fun j60 => m_jp (fun (S61 : m_S) => none) (fun j62 => m_jp (fun (S63 : m_S) => none) (fun j64 => m_jp (fun (S65 : m_S) => none) (fun j66 => m_jp (fun (S67 : m_S) => none) (fun j68 => m_jp (fun (S69 : m_S) => none) (fun j70 => m_jp (fun (S71 : m_S) => none) (fun j72 => m_jp (fun (S73 : m_S) => none) (fun j74 => m_jp (fun (S75 : m_S) => none) (fun j76 => m_jp (fun (S77 : m_S) => none) (fun j78 => m_jp (fun (S79 : m_S) => none) (fun j80 => m_jp (fun (S81 : m_S) => none) (fun j82 => m_jp (fun (S83 : m_S) => none) (fun j84 => m_jp (fun (S85 : m_S) => none) (fun j86 => m_jp (fun (S87 : m_S) => none) (fun j88 => m_jp (fun (S89 : m_S) => none) (fun j90 => m_jp (fun (S91 : m_S) => none) (fun j92 => m_jp (fun (S93 : m_S) => none) (fun j94 => m_jp (fun (S95 : m_S) => none) (fun j96 => m_jp (fun (S97 : m_S) => none) (fun j98 => m_jp (fun (S99 : m_S) => none) (fun j100 => m_jp (fun (S101 : m_S) => none) (fun j102 => m_jp (fun (S103 : m_S) => none) (fun j104 => m_jp (fun (S105 : m_S) => none) (fun j106 => m_jp (fun (S107 : m_S) => none) (fun j108 => m_jp (fun (S109 : m_S) => none) (fun j110 => m_jp (fun (S111 : m_S) => none) (fun j112 => m_jp (fun (S113 : m_S) => none) (fun j114 => m_jp (fun (S115 : m_S) => none) (fun j116 => m_jp (fun (S117 : m_S) => none) (fun j118 => m_jp (fun (S119 : m_S) => none) (fun j120 => m_jp (fun (S121 : m_S) => none) (fun j122 => m_jp (fun (S123 : m_S) => none) (fun j124 => m_jp (fun (S125 : m_S) => none) (fun j126 => m_jp (fun (S127 : m_S) => none) (fun j128 => m_fx (F_L_law_28 Z L9 xs9 a1 a2 a3 a4 j2 j4 j6 j8 j10 j12 j14 j16 j18 j20 j22 j24 j26 j28 j30 j32 j34 j36 j38 j40 j42 j44 j46 j48 j50 j52 j54 j56 j58 j60 j62 j64 j66 j68 j70 j72 j74 j76 j78 j80 j82 j84 j86 j88 j90 j92 j94 j96 j98 j100 j102 j104 j106 j108 j110 j112 j114 j116 j118 j120 j122 j124 j126 j128) 513 (p5, S)))))))))))))))))))))))))))))))))))))))))))))))))))))))))))))))))
set_option maxHeartbeats 40000000 in
set_option maxRecDepth 100000 in
theorem c_L_law {x : m_X} {l : Launch} (hl : l.stackTraces = false) {Z : m_Z} {S : m_S} {L9 b9 a1 a2 a3 a4 : Nat} {xs9 : Nat → Int32} {p5 : Int32} (C : m_H x l RL cL_law 9 room_1) (T : m_T x b9 L9 xs9) (hfin : ∀ (Z : m_Z) (S : m_S) (L : List (Nat × Value)), m_G x Z S 9 room_1.cells room_1.slots 2266 L [.int 1]) (hf : f_L_law Z S L9 xs9 a1 a2 a3 a4 p5 = some ()) : m_G x Z S 9 1000 20000 28 [(0, .ref b9), (1, .ref a1), (2, .ref a2), (3, .ref a3), (4, .ref a4), (5, .int p5)] [] := by
  unfold f_L_law at hf
  obtain ⟨j2, ej2, hf⟩ := m_jp_of hf
  have J2 : ∀ (S1 : m_S), j2 S1 = some () → m_G x Z S1 9 381133 2300798 2265 [] [] := by
    intro S1 hf
    rw [ej2] at hf
    refine r_iconst (q := 2266) (v := (1 : Int32)) C dL_law_2265 (by decide) rfl ?_
    exact r_wid (Nat.le_of_ble_eq_true rfl) (Nat.le_of_ble_eq_true rfl) (hfin Z S1 _)
  obtain ⟨j4, ej4, hf⟩ := m_jp_of hf
  have J4 : ∀ (S3 : m_S), j4 S3 = some () → m_G x Z S3 9 381133 2300798 295 [] [] := by
    intro S3 hf
    rw [ej4] at hf
    refine r_iconst (q := 296) (v := (0 : Int32)) C dL_law_295 (by decide) rfl ?_
    cases hf
  obtain ⟨j6, ej6, hf⟩ := m_jp_of hf
  have J6 : ∀ (S5 : m_S), j6 S5 = some () → m_G x Z S5 9 381133 2300798 278 [] [] := by
    intro S5 hf
    rw [ej6] at hf
    refine r_iconst (q := 279) (v := (0 : Int32)) C dL_law_278 (by decide) rfl ?_
    cases hf
  obtain ⟨j8, ej8, hf⟩ := m_jp_of hf
  have J8 : ∀ (S7 : m_S), j8 S7 = some () → m_G x Z S7 9 381133 2300798 351 [] [] := by
    intro S7 hf
    rw [ej8] at hf
    refine r_iconst (q := 352) (v := (0 : Int32)) C dL_law_351 (by decide) rfl ?_
    cases hf
  obtain ⟨j10, ej10, hf⟩ := m_jp_of hf
  have J10 : ∀ (S9 : m_S), j10 S9 = some () → m_G x Z S9 9 381133 2300798 334 [] [] := by
    intro S9 hf
    rw [ej10] at hf
    refine r_iconst (q := 335) (v := (0 : Int32)) C dL_law_334 (by decide) rfl ?_
    cases hf
  obtain ⟨j12, ej12, hf⟩ := m_jp_of hf
  have J12 : ∀ (S11 : m_S), j12 S11 = some () → m_G x Z S11 9 381133 2300798 395 [] [] := by
    intro S11 hf
    rw [ej12] at hf
    refine r_iconst (q := 396) (v := (0 : Int32)) C dL_law_395 (by decide) rfl ?_
    cases hf
  obtain ⟨j14, ej14, hf⟩ := m_jp_of hf
  have J14 : ∀ (S13 : m_S), j14 S13 = some () → m_G x Z S13 9 381133 2300798 378 [] [] := by
    intro S13 hf
    rw [ej14] at hf
    refine r_iconst (q := 379) (v := (0 : Int32)) C dL_law_378 (by decide) rfl ?_
    cases hf
  obtain ⟨j16, ej16, hf⟩ := m_jp_of hf
  have J16 : ∀ (S15 : m_S), j16 S15 = some () → m_G x Z S15 9 381133 2300798 411 [] [] := by
    intro S15 hf
    rw [ej16] at hf
    refine r_iconst (q := 412) (v := (0 : Int32)) C dL_law_411 (by decide) rfl ?_
    cases hf
  obtain ⟨j18, ej18, hf⟩ := m_jp_of hf
  have J18 : ∀ (S17 : m_S), j18 S17 = some () → m_G x Z S17 9 381133 2300798 424 [] [] := by
    intro S17 hf
    rw [ej18] at hf
    refine r_iconst (q := 425) (v := (0 : Int32)) C dL_law_424 (by decide) rfl ?_
    cases hf
  obtain ⟨j20, ej20, hf⟩ := m_jp_of hf
  have J20 : ∀ (S19 : m_S), j20 S19 = some () → m_G x Z S19 9 381133 2300798 477 [] [] := by
    intro S19 hf
    rw [ej20] at hf
    refine r_iconst (q := 478) (v := (0 : Int32)) C dL_law_477 (by decide) rfl ?_
    cases hf
  obtain ⟨j22, ej22, hf⟩ := m_jp_of hf
  have J22 : ∀ (S21 : m_S), j22 S21 = some () → m_G x Z S21 9 381133 2300798 460 [] [] := by
    intro S21 hf
    rw [ej22] at hf
    refine r_iconst (q := 461) (v := (0 : Int32)) C dL_law_460 (by decide) rfl ?_
    cases hf
  obtain ⟨j24, ej24, hf⟩ := m_jp_of hf
  have J24 : ∀ (S23 : m_S), j24 S23 = some () → m_G x Z S23 9 381133 2300798 533 [] [] := by
    intro S23 hf
    rw [ej24] at hf
    refine r_iconst (q := 534) (v := (0 : Int32)) C dL_law_533 (by decide) rfl ?_
    cases hf
  obtain ⟨j26, ej26, hf⟩ := m_jp_of hf
  have J26 : ∀ (S25 : m_S), j26 S25 = some () → m_G x Z S25 9 381133 2300798 516 [] [] := by
    intro S25 hf
    rw [ej26] at hf
    refine r_iconst (q := 517) (v := (0 : Int32)) C dL_law_516 (by decide) rfl ?_
    cases hf
  obtain ⟨j28, ej28, hf⟩ := m_jp_of hf
  have J28 : ∀ (S27 : m_S), j28 S27 = some () → m_G x Z S27 9 381133 2300798 589 [] [] := by
    intro S27 hf
    rw [ej28] at hf
    refine r_iconst (q := 590) (v := (0 : Int32)) C dL_law_589 (by decide) rfl ?_
    cases hf
  obtain ⟨j30, ej30, hf⟩ := m_jp_of hf
  have J30 : ∀ (S29 : m_S), j30 S29 = some () → m_G x Z S29 9 381133 2300798 572 [] [] := by
    intro S29 hf
    rw [ej30] at hf
    refine r_iconst (q := 573) (v := (0 : Int32)) C dL_law_572 (by decide) rfl ?_
    cases hf
  obtain ⟨j32, ej32, hf⟩ := m_jp_of hf
  have J32 : ∀ (S31 : m_S), j32 S31 = some () → m_G x Z S31 9 381133 2300798 657 [] [] := by
    intro S31 hf
    rw [ej32] at hf
    refine r_iconst (q := 658) (v := (0 : Int32)) C dL_law_657 (by decide) rfl ?_
    cases hf
  obtain ⟨j34, ej34, hf⟩ := m_jp_of hf
  have J34 : ∀ (S33 : m_S), j34 S33 = some () → m_G x Z S33 9 381133 2300798 640 [] [] := by
    intro S33 hf
    rw [ej34] at hf
    refine r_iconst (q := 641) (v := (0 : Int32)) C dL_law_640 (by decide) rfl ?_
    cases hf
  obtain ⟨j36, ej36, hf⟩ := m_jp_of hf
  have J36 : ∀ (S35 : m_S), j36 S35 = some () → m_G x Z S35 9 381133 2300798 713 [] [] := by
    intro S35 hf
    rw [ej36] at hf
    refine r_iconst (q := 714) (v := (0 : Int32)) C dL_law_713 (by decide) rfl ?_
    cases hf
  obtain ⟨j38, ej38, hf⟩ := m_jp_of hf
  have J38 : ∀ (S37 : m_S), j38 S37 = some () → m_G x Z S37 9 381133 2300798 696 [] [] := by
    intro S37 hf
    rw [ej38] at hf
    refine r_iconst (q := 697) (v := (0 : Int32)) C dL_law_696 (by decide) rfl ?_
    cases hf
  obtain ⟨j40, ej40, hf⟩ := m_jp_of hf
  have J40 : ∀ (S39 : m_S), j40 S39 = some () → m_G x Z S39 9 381133 2300798 781 [] [] := by
    intro S39 hf
    rw [ej40] at hf
    refine r_iconst (q := 782) (v := (0 : Int32)) C dL_law_781 (by decide) rfl ?_
    cases hf
  obtain ⟨j42, ej42, hf⟩ := m_jp_of hf
  have J42 : ∀ (S41 : m_S), j42 S41 = some () → m_G x Z S41 9 381133 2300798 764 [] [] := by
    intro S41 hf
    rw [ej42] at hf
    refine r_iconst (q := 765) (v := (0 : Int32)) C dL_law_764 (by decide) rfl ?_
    cases hf
  obtain ⟨j44, ej44, hf⟩ := m_jp_of hf
  have J44 : ∀ (S43 : m_S), j44 S43 = some () → m_G x Z S43 9 381133 2300798 848 [] [] := by
    intro S43 hf
    rw [ej44] at hf
    refine r_iconst (q := 849) (v := (0 : Int32)) C dL_law_848 (by decide) rfl ?_
    cases hf
  obtain ⟨j46, ej46, hf⟩ := m_jp_of hf
  have J46 : ∀ (S45 : m_S), j46 S45 = some () → m_G x Z S45 9 381133 2300798 832 [] [] := by
    intro S45 hf
    rw [ej46] at hf
    refine r_iconst (q := 833) (v := (0 : Int32)) C dL_law_832 (by decide) rfl ?_
    cases hf
  obtain ⟨j48, ej48, hf⟩ := m_jp_of hf
  have J48 : ∀ (S47 : m_S), j48 S47 = some () → m_G x Z S47 9 381133 2300798 916 [] [] := by
    intro S47 hf
    rw [ej48] at hf
    refine r_iconst (q := 917) (v := (0 : Int32)) C dL_law_916 (by decide) rfl ?_
    cases hf
  obtain ⟨j50, ej50, hf⟩ := m_jp_of hf
  have J50 : ∀ (S49 : m_S), j50 S49 = some () → m_G x Z S49 9 381133 2300798 899 [] [] := by
    intro S49 hf
    rw [ej50] at hf
    refine r_iconst (q := 900) (v := (0 : Int32)) C dL_law_899 (by decide) rfl ?_
    cases hf
  obtain ⟨j52, ej52, hf⟩ := m_jp_of hf
  have J52 : ∀ (S51 : m_S), j52 S51 = some () → m_G x Z S51 9 381133 2300798 972 [] [] := by
    intro S51 hf
    rw [ej52] at hf
    refine r_iconst (q := 973) (v := (0 : Int32)) C dL_law_972 (by decide) rfl ?_
    cases hf
  obtain ⟨j54, ej54, hf⟩ := m_jp_of hf
  have J54 : ∀ (S53 : m_S), j54 S53 = some () → m_G x Z S53 9 381133 2300798 955 [] [] := by
    intro S53 hf
    rw [ej54] at hf
    refine r_iconst (q := 956) (v := (0 : Int32)) C dL_law_955 (by decide) rfl ?_
    cases hf
  obtain ⟨j56, ej56, hf⟩ := m_jp_of hf
  have J56 : ∀ (S55 : m_S), j56 S55 = some () → m_G x Z S55 9 381133 2300798 1049 [] [] := by
    intro S55 hf
    rw [ej56] at hf
    refine r_iconst (q := 1050) (v := (0 : Int32)) C dL_law_1049 (by decide) rfl ?_
    cases hf
  obtain ⟨j58, ej58, hf⟩ := m_jp_of hf
  have J58 : ∀ (S57 : m_S), j58 S57 = some () → m_G x Z S57 9 381133 2300798 1012 [] [] := by
    intro S57 hf
    rw [ej58] at hf
    refine r_iconst (q := 1013) (v := (0 : Int32)) C dL_law_1012 (by decide) rfl ?_
    cases hf
  obtain ⟨j60, ej60, hf⟩ := m_jp_of hf
  have J60 : ∀ (S59 : m_S), j60 S59 = some () → m_G x Z S59 9 381133 2300798 1126 [] [] := by
    intro S59 hf
    rw [ej60] at hf
    refine r_iconst (q := 1127) (v := (0 : Int32)) C dL_law_1126 (by decide) rfl ?_
    cases hf
  obtain ⟨j62, ej62, hf⟩ := m_jp_of hf
  have J62 : ∀ (S61 : m_S), j62 S61 = some () → m_G x Z S61 9 381133 2300798 1089 [] [] := by
    intro S61 hf
    rw [ej62] at hf
    refine r_iconst (q := 1090) (v := (0 : Int32)) C dL_law_1089 (by decide) rfl ?_
    cases hf
  obtain ⟨j64, ej64, hf⟩ := m_jp_of hf
  have J64 : ∀ (S63 : m_S), j64 S63 = some () → m_G x Z S63 9 381133 2300798 1194 [] [] := by
    intro S63 hf
    rw [ej64] at hf
    refine r_iconst (q := 1195) (v := (0 : Int32)) C dL_law_1194 (by decide) rfl ?_
    cases hf
  obtain ⟨j66, ej66, hf⟩ := m_jp_of hf
  have J66 : ∀ (S65 : m_S), j66 S65 = some () → m_G x Z S65 9 381133 2300798 1177 [] [] := by
    intro S65 hf
    rw [ej66] at hf
    refine r_iconst (q := 1178) (v := (0 : Int32)) C dL_law_1177 (by decide) rfl ?_
    cases hf
  obtain ⟨j68, ej68, hf⟩ := m_jp_of hf
  have J68 : ∀ (S67 : m_S), j68 S67 = some () → m_G x Z S67 9 381133 2300798 1254 [] [] := by
    intro S67 hf
    rw [ej68] at hf
    refine r_iconst (q := 1255) (v := (0 : Int32)) C dL_law_1254 (by decide) rfl ?_
    cases hf
  obtain ⟨j70, ej70, hf⟩ := m_jp_of hf
  have J70 : ∀ (S69 : m_S), j70 S69 = some () → m_G x Z S69 9 381133 2300798 1310 [] [] := by
    intro S69 hf
    rw [ej70] at hf
    refine r_iconst (q := 1311) (v := (0 : Int32)) C dL_law_1310 (by decide) rfl ?_
    cases hf
  obtain ⟨j72, ej72, hf⟩ := m_jp_of hf
  have J72 : ∀ (S71 : m_S), j72 S71 = some () → m_G x Z S71 9 381133 2300798 1293 [] [] := by
    intro S71 hf
    rw [ej72] at hf
    refine r_iconst (q := 1294) (v := (0 : Int32)) C dL_law_1293 (by decide) rfl ?_
    cases hf
  obtain ⟨j74, ej74, hf⟩ := m_jp_of hf
  have J74 : ∀ (S73 : m_S), j74 S73 = some () → m_G x Z S73 9 381133 2300798 1390 [] [] := by
    intro S73 hf
    rw [ej74] at hf
    refine r_iconst (q := 1391) (v := (0 : Int32)) C dL_law_1390 (by decide) rfl ?_
    cases hf
  obtain ⟨j76, ej76, hf⟩ := m_jp_of hf
  have J76 : ∀ (S75 : m_S), j76 S75 = some () → m_G x Z S75 9 381133 2300798 1373 [] [] := by
    intro S75 hf
    rw [ej76] at hf
    refine r_iconst (q := 1374) (v := (0 : Int32)) C dL_law_1373 (by decide) rfl ?_
    cases hf
  obtain ⟨j78, ej78, hf⟩ := m_jp_of hf
  have J78 : ∀ (S77 : m_S), j78 S77 = some () → m_G x Z S77 9 381133 2300798 1446 [] [] := by
    intro S77 hf
    rw [ej78] at hf
    refine r_iconst (q := 1447) (v := (0 : Int32)) C dL_law_1446 (by decide) rfl ?_
    cases hf
  obtain ⟨j80, ej80, hf⟩ := m_jp_of hf
  have J80 : ∀ (S79 : m_S), j80 S79 = some () → m_G x Z S79 9 381133 2300798 1429 [] [] := by
    intro S79 hf
    rw [ej80] at hf
    refine r_iconst (q := 1430) (v := (0 : Int32)) C dL_law_1429 (by decide) rfl ?_
    cases hf
  obtain ⟨j82, ej82, hf⟩ := m_jp_of hf
  have J82 : ∀ (S81 : m_S), j82 S81 = some () → m_G x Z S81 9 381133 2300798 1538 [] [] := by
    intro S81 hf
    rw [ej82] at hf
    refine r_iconst (q := 1539) (v := (0 : Int32)) C dL_law_1538 (by decide) rfl ?_
    cases hf
  obtain ⟨j84, ej84, hf⟩ := m_jp_of hf
  have J84 : ∀ (S83 : m_S), j84 S83 = some () → m_G x Z S83 9 381133 2300798 1521 [] [] := by
    intro S83 hf
    rw [ej84] at hf
    refine r_iconst (q := 1522) (v := (0 : Int32)) C dL_law_1521 (by decide) rfl ?_
    cases hf
  obtain ⟨j86, ej86, hf⟩ := m_jp_of hf
  have J86 : ∀ (S85 : m_S), j86 S85 = some () → m_G x Z S85 9 381133 2300798 1594 [] [] := by
    intro S85 hf
    rw [ej86] at hf
    refine r_iconst (q := 1595) (v := (0 : Int32)) C dL_law_1594 (by decide) rfl ?_
    cases hf
  obtain ⟨j88, ej88, hf⟩ := m_jp_of hf
  have J88 : ∀ (S87 : m_S), j88 S87 = some () → m_G x Z S87 9 381133 2300798 1577 [] [] := by
    intro S87 hf
    rw [ej88] at hf
    refine r_iconst (q := 1578) (v := (0 : Int32)) C dL_law_1577 (by decide) rfl ?_
    cases hf
  obtain ⟨j90, ej90, hf⟩ := m_jp_of hf
  have J90 : ∀ (S89 : m_S), j90 S89 = some () → m_G x Z S89 9 381133 2300798 1662 [] [] := by
    intro S89 hf
    rw [ej90] at hf
    refine r_iconst (q := 1663) (v := (0 : Int32)) C dL_law_1662 (by decide) rfl ?_
    cases hf
  obtain ⟨j92, ej92, hf⟩ := m_jp_of hf
  have J92 : ∀ (S91 : m_S), j92 S91 = some () → m_G x Z S91 9 381133 2300798 1645 [] [] := by
    intro S91 hf
    rw [ej92] at hf
    refine r_iconst (q := 1646) (v := (0 : Int32)) C dL_law_1645 (by decide) rfl ?_
    cases hf
  obtain ⟨j94, ej94, hf⟩ := m_jp_of hf
  have J94 : ∀ (S93 : m_S), j94 S93 = some () → m_G x Z S93 9 381133 2300798 1730 [] [] := by
    intro S93 hf
    rw [ej94] at hf
    refine r_iconst (q := 1731) (v := (0 : Int32)) C dL_law_1730 (by decide) rfl ?_
    cases hf
  obtain ⟨j96, ej96, hf⟩ := m_jp_of hf
  have J96 : ∀ (S95 : m_S), j96 S95 = some () → m_G x Z S95 9 381133 2300798 1713 [] [] := by
    intro S95 hf
    rw [ej96] at hf
    refine r_iconst (q := 1714) (v := (0 : Int32)) C dL_law_1713 (by decide) rfl ?_
    cases hf
  obtain ⟨j98, ej98, hf⟩ := m_jp_of hf
  have J98 : ∀ (S97 : m_S), j98 S97 = some () → m_G x Z S97 9 381133 2300798 1786 [] [] := by
    intro S97 hf
    rw [ej98] at hf
    refine r_iconst (q := 1787) (v := (0 : Int32)) C dL_law_1786 (by decide) rfl ?_
    cases hf
  obtain ⟨j100, ej100, hf⟩ := m_jp_of hf
  have J100 : ∀ (S99 : m_S), j100 S99 = some () → m_G x Z S99 9 381133 2300798 1769 [] [] := by
    intro S99 hf
    rw [ej100] at hf
    refine r_iconst (q := 1770) (v := (0 : Int32)) C dL_law_1769 (by decide) rfl ?_
    cases hf
  obtain ⟨j102, ej102, hf⟩ := m_jp_of hf
  have J102 : ∀ (S101 : m_S), j102 S101 = some () → m_G x Z S101 9 381133 2300798 1842 [] [] := by
    intro S101 hf
    rw [ej102] at hf
    refine r_iconst (q := 1843) (v := (0 : Int32)) C dL_law_1842 (by decide) rfl ?_
    cases hf
  obtain ⟨j104, ej104, hf⟩ := m_jp_of hf
  have J104 : ∀ (S103 : m_S), j104 S103 = some () → m_G x Z S103 9 381133 2300798 1825 [] [] := by
    intro S103 hf
    rw [ej104] at hf
    refine r_iconst (q := 1826) (v := (0 : Int32)) C dL_law_1825 (by decide) rfl ?_
    cases hf
  obtain ⟨j106, ej106, hf⟩ := m_jp_of hf
  have J106 : ∀ (S105 : m_S), j106 S105 = some () → m_G x Z S105 9 381133 2300798 1910 [] [] := by
    intro S105 hf
    rw [ej106] at hf
    refine r_iconst (q := 1911) (v := (0 : Int32)) C dL_law_1910 (by decide) rfl ?_
    cases hf
  obtain ⟨j108, ej108, hf⟩ := m_jp_of hf
  have J108 : ∀ (S107 : m_S), j108 S107 = some () → m_G x Z S107 9 381133 2300798 1893 [] [] := by
    intro S107 hf
    rw [ej108] at hf
    refine r_iconst (q := 1894) (v := (0 : Int32)) C dL_law_1893 (by decide) rfl ?_
    cases hf
  obtain ⟨j110, ej110, hf⟩ := m_jp_of hf
  have J110 : ∀ (S109 : m_S), j110 S109 = some () → m_G x Z S109 9 381133 2300798 1966 [] [] := by
    intro S109 hf
    rw [ej110] at hf
    refine r_iconst (q := 1967) (v := (0 : Int32)) C dL_law_1966 (by decide) rfl ?_
    cases hf
  obtain ⟨j112, ej112, hf⟩ := m_jp_of hf
  have J112 : ∀ (S111 : m_S), j112 S111 = some () → m_G x Z S111 9 381133 2300798 1949 [] [] := by
    intro S111 hf
    rw [ej112] at hf
    refine r_iconst (q := 1950) (v := (0 : Int32)) C dL_law_1949 (by decide) rfl ?_
    cases hf
  obtain ⟨j114, ej114, hf⟩ := m_jp_of hf
  have J114 : ∀ (S113 : m_S), j114 S113 = some () → m_G x Z S113 9 381133 2300798 2022 [] [] := by
    intro S113 hf
    rw [ej114] at hf
    refine r_iconst (q := 2023) (v := (0 : Int32)) C dL_law_2022 (by decide) rfl ?_
    cases hf
  obtain ⟨j116, ej116, hf⟩ := m_jp_of hf
  have J116 : ∀ (S115 : m_S), j116 S115 = some () → m_G x Z S115 9 381133 2300798 2005 [] [] := by
    intro S115 hf
    rw [ej116] at hf
    refine r_iconst (q := 2006) (v := (0 : Int32)) C dL_law_2005 (by decide) rfl ?_
    cases hf
  obtain ⟨j118, ej118, hf⟩ := m_jp_of hf
  have J118 : ∀ (S117 : m_S), j118 S117 = some () → m_G x Z S117 9 381133 2300798 2114 [] [] := by
    intro S117 hf
    rw [ej118] at hf
    refine r_iconst (q := 2115) (v := (0 : Int32)) C dL_law_2114 (by decide) rfl ?_
    cases hf
  obtain ⟨j120, ej120, hf⟩ := m_jp_of hf
  have J120 : ∀ (S119 : m_S), j120 S119 = some () → m_G x Z S119 9 381133 2300798 2097 [] [] := by
    intro S119 hf
    rw [ej120] at hf
    refine r_iconst (q := 2098) (v := (0 : Int32)) C dL_law_2097 (by decide) rfl ?_
    cases hf
  obtain ⟨j122, ej122, hf⟩ := m_jp_of hf
  have J122 : ∀ (S121 : m_S), j122 S121 = some () → m_G x Z S121 9 381133 2300798 2182 [] [] := by
    intro S121 hf
    rw [ej122] at hf
    refine r_iconst (q := 2183) (v := (0 : Int32)) C dL_law_2182 (by decide) rfl ?_
    cases hf
  obtain ⟨j124, ej124, hf⟩ := m_jp_of hf
  have J124 : ∀ (S123 : m_S), j124 S123 = some () → m_G x Z S123 9 381133 2300798 2165 [] [] := by
    intro S123 hf
    rw [ej124] at hf
    refine r_iconst (q := 2166) (v := (0 : Int32)) C dL_law_2165 (by decide) rfl ?_
    cases hf
  obtain ⟨j126, ej126, hf⟩ := m_jp_of hf
  have J126 : ∀ (S125 : m_S), j126 S125 = some () → m_G x Z S125 9 381133 2300798 2218 [] [] := by
    intro S125 hf
    rw [ej126] at hf
    refine r_iconst (q := 2219) (v := (0 : Int32)) C dL_law_2218 (by decide) rfl ?_
    cases hf
  obtain ⟨j128, ej128, hf⟩ := m_jp_of hf
  have J128 : ∀ (S127 : m_S), j128 S127 = some () → m_G x Z S127 9 381133 2300798 2254 [] [] := by
    intro S127 hf
    rw [ej128] at hf
    refine r_iconst (q := 2255) (v := (0 : Int32)) C dL_law_2254 (by decide) rfl ?_
    cases hf
  have LL136 : ∀ (fu135 : Nat) (v129 : Int32) (S130 : m_S) (kk131 nn132 : Nat), kk131 + 741 * fu135 ≤ 381133 → nn132 + 4446 * fu135 ≤ 2300798 → m_fx (F_L_law_28 Z L9 xs9 a1 a2 a3 a4 j2 j4 j6 j8 j10 j12 j14 j16 j18 j20 j22 j24 j26 j28 j30 j32 j34 j36 j38 j40 j42 j44 j46 j48 j50 j52 j54 j56 j58 j60 j62 j64 j66 j68 j70 j72 j74 j76 j78 j80 j82 j84 j86 j88 j90 j92 j94 j96 j98 j100 j102 j104 j106 j108 j110 j112 j114 j116 j118 j120 j122 j124 j126 j128) fu135 (v129, S130) = some () → m_G x Z S130 9 kk131 nn132 28 [(0, .ref b9), (1, .ref a1), (2, .ref a2), (3, .ref a3), (4, .ref a4), (5, .int v129)] [] := by
    intro fu135
    induction fu135 with
    | zero => intros; rename_i hf; cases hf
    | succ fu135 ih134 =>
      intro v129 S130 kk131 nn132 hk9 hn9 hf
      replace hf : F_L_law_28 Z L9 xs9 a1 a2 a3 a4 j2 j4 j6 j8 j10 j12 j14 j16 j18 j20 j22 j24 j26 j28 j30 j32 j34 j36 j38 j40 j42 j44 j46 j48 j50 j52 j54 j56 j58 j60 j62 j64 j66 j68 j70 j72 j74 j76 j78 j80 j82 j84 j86 j88 j90 j92 j94 j96 j98 j100 j102 j104 j106 j108 j110 j112 j114 j116 j118 j120 j122 j124 j126 j128 (m_fx (F_L_law_28 Z L9 xs9 a1 a2 a3 a4 j2 j4 j6 j8 j10 j12 j14 j16 j18 j20 j22 j24 j26 j28 j30 j32 j34 j36 j38 j40 j42 j44 j46 j48 j50 j52 j54 j56 j58 j60 j62 j64 j66 j68 j70 j72 j74 j76 j78 j80 j82 j84 j86 j88 j90 j92 j94 j96 j98 j100 j102 j104 j106 j108 j110 j112 j114 j116 j118 j120 j122 j124 j126 j128) fu135) (v129, S130) = some () := hf
      unfold F_L_law_28 at hf
      dsimp only at hf
      refine r_iload (q := 30) C 5 dL_law_28 rfl rfl ?_
      refine r_aload_n (q := 31) C 0 dL_law_30 rfl rfl ?_
      refine r_slen9 (q := 32) C T dL_law_31 rfl ?_
      refine r_bipush (q := 34) (v := (6 : Int32)) C dL_law_32 (by decide) rfl ?_
      refine r_isub (q := 35) C dL_law_34 rfl ?_
      refine r_icmp_gt (t := 2265) (q := 38) C dL_law_35 (by decide) rfl (fun c137 => ?_) (fun c137 => ?_)
      · replace hf := m_if1 hf c137
        refine r_sub [] rfl ?_
        refine r_wid (k' := 381133) (n' := 2300798) (by omega) (by omega) ?_
        exact J2 S130 hf
      · replace hf := m_if0 hf c137
        refine r_aload_n (q := 39) C 0 dL_law_38 rfl rfl ?_
        refine r_iload (q := 41) C 5 dL_law_39 rfl rfl ?_
        obtain ⟨g138, hf⟩ := m_gd_of hf
        refine r_sld (q := 42) C T g138 dL_law_41 rfl ?_
        refine r_bipush (q := 44) (v := (63 : Int32)) C dL_law_42 (by decide) rfl ?_
        refine r_iand (q := 45) C dL_law_44 rfl ?_
        obtain ⟨v139, e140, hf⟩ := m_lt_of hf
        refine r_nm e140 ?_
        by_cases c141 : v139 = Int32.ofNat 0
        · replace hf := m_if1 hf c141
          refine r_tsw (N := 0) (t := 196) (v := 0) C dL_law_45 c141 (by decide) (by decide) rfl (by decide) ?_
          refine r_aload_n (q := 197) C 1 dL_law_196 rfl rfl ?_
          refine r_aload_n (q := 198) C 0 dL_law_197 rfl rfl ?_
          refine r_iload (q := 200) C 5 dL_law_198 rfl rfl ?_
          refine r_iconst (q := 201) (v := (1 : Int32)) C dL_law_200 (by decide) rfl ?_
          refine r_iadd (q := 202) C dL_law_201 rfl ?_
          obtain ⟨v142, e143, hf⟩ := m_lt_of hf
          refine r_nm e143 ?_
          obtain ⟨g144, hf⟩ := m_gd_of hf
          refine r_sld (q := 203) C T g144 dL_law_202 rfl ?_
          refine r_aload_n (q := 204) C 0 dL_law_203 rfl rfl ?_
          refine r_iload (q := 206) C 5 dL_law_204 rfl rfl ?_
          refine r_iconst (q := 207) (v := (2 : Int32)) C dL_law_206 (by decide) rfl ?_
          refine r_iadd (q := 208) C dL_law_207 rfl ?_
          obtain ⟨v145, e146, hf⟩ := m_lt_of hf
          refine r_nm e146 ?_
          obtain ⟨g147, hf⟩ := m_gd_of hf
          refine r_sld (q := 209) C T g147 dL_law_208 rfl ?_
          refine r_aload_n (q := 210) C 0 dL_law_209 rfl rfl ?_
          refine r_iload (q := 212) C 5 dL_law_210 rfl rfl ?_
          refine r_iconst (q := 213) (v := (3 : Int32)) C dL_law_212 (by decide) rfl ?_
          refine r_iadd (q := 214) C dL_law_213 rfl ?_
          obtain ⟨v148, e149, hf⟩ := m_lt_of hf
          refine r_nm e149 ?_
          obtain ⟨g150, hf⟩ := m_gd_of hf
          refine r_sld (q := 215) C T g150 dL_law_214 rfl ?_
          refine r_aload_n (q := 216) C 0 dL_law_215 rfl rfl ?_
          refine r_iload (q := 218) C 5 dL_law_216 rfl rfl ?_
          refine r_iconst (q := 219) (v := (4 : Int32)) C dL_law_218 (by decide) rfl ?_
          refine r_iadd (q := 220) C dL_law_219 rfl ?_
          obtain ⟨v151, e152, hf⟩ := m_lt_of hf
          refine r_nm e152 ?_
          obtain ⟨g153, hf⟩ := m_gd_of hf
          refine r_sld (q := 221) C T g153 dL_law_220 rfl ?_
          refine r_aload_n (q := 222) C 0 dL_law_221 rfl rfl ?_
          refine r_iload (q := 224) C 5 dL_law_222 rfl rfl ?_
          refine r_iconst (q := 225) (v := (5 : Int32)) C dL_law_224 (by decide) rfl ?_
          refine r_iadd (q := 226) C dL_law_225 rfl ?_
          obtain ⟨v154, e155, hf⟩ := m_lt_of hf
          refine r_nm e155 ?_
          obtain ⟨g156, hf⟩ := m_gd_of hf
          refine r_sld (q := 227) C T g156 dL_law_226 rfl ?_
          refine r_aload_n (q := 228) C 3 dL_law_227 rfl rfl ?_
          obtain ⟨v158, S157, h159, hf⟩ := m_bw_of hf
          refine x_callW (q := 231) (st1 := [.int v158]) C (c_L_append hl h159) rfl w_218 w_219 w_1 w_220 hd_L_append rfl rfl rfl ⟨(Nat.le_of_ble_eq_true rfl), (Nat.le_of_ble_eq_true rfl)⟩ (Nat.le_of_ble_eq_true rfl) ⟨(Nat.le_trans (show kk131 + 1 ≤ 400000 by omega) rmC), (Nat.le_trans (show nn132 + 6 ≤ 2400000 by omega) rmS)⟩ dL_law_228 rfl rfl rfl ?_
          refine r_istore (q := 233) (L' := [(6, .int v158), (0, .ref b9), (1, .ref a1), (2, .ref a2), (3, .ref a3), (4, .ref a4), (5, .int v129)]) C dL_law_231 rfl (by decide) rfl ?_
          refine r_aload_n (q := 234) C 3 dL_law_233 rfl rfl ?_
          refine r_aload_n (q := 235) C 1 dL_law_234 rfl rfl ?_
          refine r_iload (q := 237) C 6 dL_law_235 rfl rfl ?_
          refine r_iconst (q := 238) (v := (1 : Int32)) C dL_law_237 (by decide) rfl ?_
          refine r_iadd (q := 239) C dL_law_238 rfl ?_
          obtain ⟨v160, e161, hf⟩ := m_lt_of hf
          refine r_nm e161 ?_
          obtain ⟨g162, hf⟩ := m_gd_of hf
          refine r_sld (q := 240) C T g162 dL_law_239 rfl ?_
          refine r_aload_n (q := 241) C 1 dL_law_240 rfl rfl ?_
          refine r_iload (q := 243) C 6 dL_law_241 rfl rfl ?_
          refine r_iconst (q := 244) (v := (2 : Int32)) C dL_law_243 (by decide) rfl ?_
          refine r_iadd (q := 245) C dL_law_244 rfl ?_
          obtain ⟨v163, e164, hf⟩ := m_lt_of hf
          refine r_nm e164 ?_
          obtain ⟨g165, hf⟩ := m_gd_of hf
          refine r_sld (q := 246) C T g165 dL_law_245 rfl ?_
          refine r_aload_n (q := 247) C 1 dL_law_246 rfl rfl ?_
          refine r_iload (q := 249) C 6 dL_law_247 rfl rfl ?_
          refine r_iconst (q := 250) (v := (3 : Int32)) C dL_law_249 (by decide) rfl ?_
          refine r_iadd (q := 251) C dL_law_250 rfl ?_
          obtain ⟨v166, e167, hf⟩ := m_lt_of hf
          refine r_nm e167 ?_
          obtain ⟨g168, hf⟩ := m_gd_of hf
          refine r_sld (q := 252) C T g168 dL_law_251 rfl ?_
          refine r_aload_n (q := 253) C 1 dL_law_252 rfl rfl ?_
          refine r_iload (q := 255) C 6 dL_law_253 rfl rfl ?_
          refine r_iconst (q := 256) (v := (4 : Int32)) C dL_law_255 (by decide) rfl ?_
          refine r_iadd (q := 257) C dL_law_256 rfl ?_
          obtain ⟨v169, e170, hf⟩ := m_lt_of hf
          refine r_nm e170 ?_
          obtain ⟨g171, hf⟩ := m_gd_of hf
          refine r_sld (q := 258) C T g171 dL_law_257 rfl ?_
          refine r_aload_n (q := 259) C 1 dL_law_258 rfl rfl ?_
          refine r_iload (q := 261) C 6 dL_law_259 rfl rfl ?_
          refine r_iconst (q := 262) (v := (5 : Int32)) C dL_law_261 (by decide) rfl ?_
          refine r_iadd (q := 263) C dL_law_262 rfl ?_
          obtain ⟨v172, e173, hf⟩ := m_lt_of hf
          refine r_nm e173 ?_
          obtain ⟨g174, hf⟩ := m_gd_of hf
          refine r_sld (q := 264) C T g174 dL_law_263 rfl ?_
          obtain ⟨g175, hf⟩ := m_gd_of hf
          obtain ⟨v178, S177, h176, hf⟩ := m_bw_of hf
          refine r_callV (mc := 0) (ms := 0) (q := 267) (st1 := [.int v178]) C (c_X9_append hl h176) rfl w_1020 w_1021 w_1022 w_11 w_1023 hd_X9_append rfl (by decide) g175 rfl rfl rfl ⟨(Nat.le_of_ble_eq_true rfl), (Nat.le_of_ble_eq_true rfl)⟩ (Nat.le_of_ble_eq_true rfl) ⟨(Nat.le_trans (show kk131 + 1 ≤ 400000 by omega) rmC), (Nat.le_trans (show nn132 + 6 ≤ 2400000 by omega) rmS)⟩ dL_law_264 rfl rfl ?_
          refine r_istore (q := 269) (L' := [(7, .int v178), (6, .int v158), (0, .ref b9), (1, .ref a1), (2, .ref a2), (3, .ref a3), (4, .ref a4), (5, .int v129)]) C dL_law_267 rfl (by decide) rfl ?_
          refine r_aload_n (q := 270) C 4 dL_law_269 rfl rfl ?_
          obtain ⟨v180, h179, hf⟩ := m_b1_of hf
          refine r_callV (mc := 0) (ms := 0) (q := 273) (st1 := [.int v180]) C (c_X9_thrown hl h179) rfl w_1016 w_1017 w_1018 w_11 w_1019 hd_X9_thrown rfl (by decide) g175 rfl rfl rfl ⟨(Nat.le_of_ble_eq_true rfl), (Nat.le_of_ble_eq_true rfl)⟩ (Nat.le_of_ble_eq_true rfl) ⟨(Nat.le_trans (show kk131 + 1 ≤ 400000 by omega) rmC), (Nat.le_trans (show nn132 + 6 ≤ 2400000 by omega) rmS)⟩ dL_law_270 rfl rfl ?_
          refine r_iload (q := 275) C 1 dL_law_273 rfl rfl ?_
          refine r_icmp_eq (t := 280) (q := 278) C dL_law_275 (by decide) rfl (fun c181 => ?_) (fun c181 => ?_)
          · replace hf := m_if1 hf c181
            refine r_iload (q := 282) C 1 dL_law_280 rfl rfl ?_
            refine r_if_ne (t := 297) (q := 285) C dL_law_282 (by decide) rfl (fun c182 => ?_) (fun c182 => ?_)
            · replace hf := m_if1 hf c182
              refine r_goto (t := 2259) C dL_law_297 (by decide) ?_
              obtain ⟨v183, e184, hf⟩ := m_lt_of hf
              refine r_iinc (q := 2262) (v := v183) (L' := [(5, .int v183), (7, .int v178), (6, .int v158), (0, .ref b9), (1, .ref a1), (2, .ref a2), (3, .ref a3), (4, .ref a4)]) C 7 dL_law_2259 rfl (by rw [e184]; rfl) rfl (by decide) rfl ?_
              refine r_goto (t := 28) C dL_law_2262 (by decide) ?_
              refine r_sub [3, 4, 5, 6, 7, 0] rfl ?_
              exact ih134 v183 S177 (kk131 + 1) (nn132 + 6) (by omega) (by omega) hf
            · replace hf := m_if0 hf (fun z => z c182)
              refine r_aload_n (q := 286) C 5 dL_law_285 rfl rfl ?_
              refine r_iconst (q := 287) (v := (0 : Int32)) C dL_law_286 (by decide) rfl ?_
              obtain ⟨g185, hf⟩ := m_gd_of hf
              obtain ⟨g186, hf⟩ := m_gd_of hf
              refine r_lald (q := 288) C dL_law_287 ⟨g185, g186⟩ rfl ?_
              refine r_iload (q := 290) C 0 dL_law_288 rfl rfl ?_
              refine r_i2l (q := 291) C dL_law_290 rfl ?_
              refine r_lcmp (q := 292) C dL_law_291 rfl ?_
              refine r_if_eq (t := 297) (q := 295) C dL_law_292 (by decide) rfl (fun c187 => ?_) (fun c187 => ?_)
              · replace hf := m_if1 hf c187
                refine r_goto (t := 2259) C dL_law_297 (by decide) ?_
                obtain ⟨v188, e189, hf⟩ := m_lt_of hf
                refine r_iinc (q := 2262) (v := v188) (L' := [(5, .int v188), (7, .int v178), (6, .int v158), (0, .ref b9), (1, .ref a1), (2, .ref a2), (3, .ref a3), (4, .ref a4)]) C 7 dL_law_2259 rfl (by rw [e189]; rfl) rfl (by decide) rfl ?_
                refine r_goto (t := 28) C dL_law_2262 (by decide) ?_
                refine r_sub [3, 4, 5, 6, 7, 0] rfl ?_
                exact ih134 v188 S177 (kk131 + 1) (nn132 + 6) (by omega) (by omega) hf
              · replace hf := m_if0 hf c187
                refine r_sub [] rfl ?_
                refine r_wid (k' := 381133) (n' := 2300798) (by omega) (by omega) ?_
                exact J4 S177 hf
          · replace hf := m_if0 hf c181
            refine r_sub [] rfl ?_
            refine r_wid (k' := 381133) (n' := 2300798) (by omega) (by omega) ?_
            exact J6 S177 hf
        · replace hf := m_if0 hf c141
          by_cases c190 : v139 = Int32.ofNat 1
          · replace hf := m_if1 hf c190
            refine r_tsw (N := 0) (t := 300) (v := 1) C dL_law_45 c190 (by decide) (by decide) rfl (by decide) ?_
            refine r_aload_n (q := 301) C 1 dL_law_300 rfl rfl ?_
            refine r_aload_n (q := 302) C 0 dL_law_301 rfl rfl ?_
            refine r_iload (q := 304) C 5 dL_law_302 rfl rfl ?_
            refine r_iconst (q := 305) (v := (1 : Int32)) C dL_law_304 (by decide) rfl ?_
            refine r_iadd (q := 306) C dL_law_305 rfl ?_
            obtain ⟨v191, e192, hf⟩ := m_lt_of hf
            refine r_nm e192 ?_
            obtain ⟨g193, hf⟩ := m_gd_of hf
            refine r_sld (q := 307) C T g193 dL_law_306 rfl ?_
            refine r_aload_n (q := 308) C 3 dL_law_307 rfl rfl ?_
            obtain ⟨v195, S194, h196, hf⟩ := m_bw_of hf
            refine x_callW (q := 311) (st1 := [.int v195]) C (c_L_truncate hl h196) rfl w_277 w_278 w_1 w_279 hd_L_truncate rfl rfl rfl ⟨(Nat.le_of_ble_eq_true rfl), (Nat.le_of_ble_eq_true rfl)⟩ (Nat.le_of_ble_eq_true rfl) ⟨(Nat.le_trans (show kk131 + 1 ≤ 400000 by omega) rmC), (Nat.le_trans (show nn132 + 6 ≤ 2400000 by omega) rmS)⟩ dL_law_308 rfl rfl rfl ?_
            refine r_istore (q := 313) (L' := [(6, .int v195), (0, .ref b9), (1, .ref a1), (2, .ref a2), (3, .ref a3), (4, .ref a4), (5, .int v129)]) C dL_law_311 rfl (by decide) rfl ?_
            refine r_aload_n (q := 314) C 3 dL_law_313 rfl rfl ?_
            refine r_aload_n (q := 315) C 1 dL_law_314 rfl rfl ?_
            refine r_iload (q := 317) C 6 dL_law_315 rfl rfl ?_
            refine r_iconst (q := 318) (v := (1 : Int32)) C dL_law_317 (by decide) rfl ?_
            refine r_iadd (q := 319) C dL_law_318 rfl ?_
            obtain ⟨v197, e198, hf⟩ := m_lt_of hf
            refine r_nm e198 ?_
            obtain ⟨g199, hf⟩ := m_gd_of hf
            refine r_sld (q := 320) C T g199 dL_law_319 rfl ?_
            obtain ⟨g200, hf⟩ := m_gd_of hf
            obtain ⟨v203, S202, h201, hf⟩ := m_bw_of hf
            refine r_callV (mc := 0) (ms := 0) (q := 323) (st1 := [.int v203]) C (c_X9_truncate hl h201) rfl w_1027 w_1028 w_1029 w_11 w_1030 hd_X9_truncate rfl (by decide) g200 rfl rfl rfl ⟨(Nat.le_of_ble_eq_true rfl), (Nat.le_of_ble_eq_true rfl)⟩ (Nat.le_of_ble_eq_true rfl) ⟨(Nat.le_trans (show kk131 + 1 ≤ 400000 by omega) rmC), (Nat.le_trans (show nn132 + 6 ≤ 2400000 by omega) rmS)⟩ dL_law_320 rfl rfl ?_
            refine r_istore (q := 325) (L' := [(7, .int v203), (6, .int v195), (0, .ref b9), (1, .ref a1), (2, .ref a2), (3, .ref a3), (4, .ref a4), (5, .int v129)]) C dL_law_323 rfl (by decide) rfl ?_
            refine r_aload_n (q := 326) C 4 dL_law_325 rfl rfl ?_
            obtain ⟨v205, h204, hf⟩ := m_b1_of hf
            refine r_callV (mc := 0) (ms := 0) (q := 329) (st1 := [.int v205]) C (c_X9_thrown hl h204) rfl w_1016 w_1017 w_1018 w_11 w_1019 hd_X9_thrown rfl (by decide) g200 rfl rfl rfl ⟨(Nat.le_of_ble_eq_true rfl), (Nat.le_of_ble_eq_true rfl)⟩ (Nat.le_of_ble_eq_true rfl) ⟨(Nat.le_trans (show kk131 + 1 ≤ 400000 by omega) rmC), (Nat.le_trans (show nn132 + 6 ≤ 2400000 by omega) rmS)⟩ dL_law_326 rfl rfl ?_
            refine r_iload (q := 331) C 1 dL_law_329 rfl rfl ?_
            refine r_icmp_eq (t := 336) (q := 334) C dL_law_331 (by decide) rfl (fun c206 => ?_) (fun c206 => ?_)
            · replace hf := m_if1 hf c206
              refine r_iload (q := 338) C 1 dL_law_336 rfl rfl ?_
              refine r_if_ne (t := 353) (q := 341) C dL_law_338 (by decide) rfl (fun c207 => ?_) (fun c207 => ?_)
              · replace hf := m_if1 hf c207
                refine r_goto (t := 2259) C dL_law_353 (by decide) ?_
                obtain ⟨v208, e209, hf⟩ := m_lt_of hf
                refine r_iinc (q := 2262) (v := v208) (L' := [(5, .int v208), (7, .int v203), (6, .int v195), (0, .ref b9), (1, .ref a1), (2, .ref a2), (3, .ref a3), (4, .ref a4)]) C 7 dL_law_2259 rfl (by rw [e209]; rfl) rfl (by decide) rfl ?_
                refine r_goto (t := 28) C dL_law_2262 (by decide) ?_
                refine r_sub [3, 4, 5, 6, 7, 0] rfl ?_
                exact ih134 v208 S202 (kk131 + 1) (nn132 + 6) (by omega) (by omega) hf
              · replace hf := m_if0 hf (fun z => z c207)
                refine r_aload_n (q := 342) C 5 dL_law_341 rfl rfl ?_
                refine r_iconst (q := 343) (v := (0 : Int32)) C dL_law_342 (by decide) rfl ?_
                obtain ⟨g210, hf⟩ := m_gd_of hf
                obtain ⟨g211, hf⟩ := m_gd_of hf
                refine r_lald (q := 344) C dL_law_343 ⟨g210, g211⟩ rfl ?_
                refine r_iload (q := 346) C 0 dL_law_344 rfl rfl ?_
                refine r_i2l (q := 347) C dL_law_346 rfl ?_
                refine r_lcmp (q := 348) C dL_law_347 rfl ?_
                refine r_if_eq (t := 353) (q := 351) C dL_law_348 (by decide) rfl (fun c212 => ?_) (fun c212 => ?_)
                · replace hf := m_if1 hf c212
                  refine r_goto (t := 2259) C dL_law_353 (by decide) ?_
                  obtain ⟨v213, e214, hf⟩ := m_lt_of hf
                  refine r_iinc (q := 2262) (v := v213) (L' := [(5, .int v213), (7, .int v203), (6, .int v195), (0, .ref b9), (1, .ref a1), (2, .ref a2), (3, .ref a3), (4, .ref a4)]) C 7 dL_law_2259 rfl (by rw [e214]; rfl) rfl (by decide) rfl ?_
                  refine r_goto (t := 28) C dL_law_2262 (by decide) ?_
                  refine r_sub [3, 4, 5, 6, 7, 0] rfl ?_
                  exact ih134 v213 S202 (kk131 + 1) (nn132 + 6) (by omega) (by omega) hf
                · replace hf := m_if0 hf c212
                  refine r_sub [] rfl ?_
                  refine r_wid (k' := 381133) (n' := 2300798) (by omega) (by omega) ?_
                  exact J8 S202 hf
            · replace hf := m_if0 hf c206
              refine r_sub [] rfl ?_
              refine r_wid (k' := 381133) (n' := 2300798) (by omega) (by omega) ?_
              exact J10 S202 hf
          · replace hf := m_if0 hf c190
            by_cases c215 : v139 = Int32.ofNat 2
            · replace hf := m_if1 hf c215
              refine r_tsw (N := 0) (t := 356) (v := 2) C dL_law_45 c215 (by decide) (by decide) rfl (by decide) ?_
              refine r_aload_n (q := 357) C 1 dL_law_356 rfl rfl ?_
              refine r_aload_n (q := 358) C 3 dL_law_357 rfl rfl ?_
              obtain ⟨v217, S216, h218, hf⟩ := m_bw_of hf
              refine x_callW (q := 361) (st1 := [.int v217]) C (c_L_load hl h218) rfl w_298 w_299 w_1 w_300 hd_L_load rfl rfl rfl ⟨(Nat.le_of_ble_eq_true rfl), (Nat.le_of_ble_eq_true rfl)⟩ (Nat.le_of_ble_eq_true rfl) ⟨(Nat.le_trans (show kk131 + 741 ≤ 400000 by omega) rmC), (Nat.le_trans (show nn132 + 4446 ≤ 2400000 by omega) rmS)⟩ dL_law_358 rfl rfl rfl ?_
              refine r_istore (q := 363) (L' := [(6, .int v217), (0, .ref b9), (1, .ref a1), (2, .ref a2), (3, .ref a3), (4, .ref a4), (5, .int v129)]) C dL_law_361 rfl (by decide) rfl ?_
              refine r_aload_n (q := 364) C 3 dL_law_363 rfl rfl ?_
              obtain ⟨g219, hf⟩ := m_gd_of hf
              obtain ⟨v222, S221, h220, hf⟩ := m_bw_of hf
              refine r_callV (mc := 0) (ms := 0) (q := 367) (st1 := [.int v222]) C (c_X9_load hl h220) rfl w_1034 w_1035 w_1036 w_11 w_1037 hd_X9_load rfl (by decide) g219 rfl rfl rfl ⟨(Nat.le_of_ble_eq_true rfl), (Nat.le_of_ble_eq_true rfl)⟩ (Nat.le_of_ble_eq_true rfl) ⟨(Nat.le_trans (show kk131 + 741 ≤ 400000 by omega) rmC), (Nat.le_trans (show nn132 + 4446 ≤ 2400000 by omega) rmS)⟩ dL_law_364 rfl rfl ?_
              refine r_istore (q := 369) (L' := [(7, .int v222), (6, .int v217), (0, .ref b9), (1, .ref a1), (2, .ref a2), (3, .ref a3), (4, .ref a4), (5, .int v129)]) C dL_law_367 rfl (by decide) rfl ?_
              refine r_aload_n (q := 370) C 4 dL_law_369 rfl rfl ?_
              obtain ⟨v224, h223, hf⟩ := m_b1_of hf
              refine r_callV (mc := 0) (ms := 0) (q := 373) (st1 := [.int v224]) C (c_X9_thrown hl h223) rfl w_1016 w_1017 w_1018 w_11 w_1019 hd_X9_thrown rfl (by decide) g219 rfl rfl rfl ⟨(Nat.le_of_ble_eq_true rfl), (Nat.le_of_ble_eq_true rfl)⟩ (Nat.le_of_ble_eq_true rfl) ⟨(Nat.le_trans (show kk131 + 741 ≤ 400000 by omega) rmC), (Nat.le_trans (show nn132 + 4446 ≤ 2400000 by omega) rmS)⟩ dL_law_370 rfl rfl ?_
              refine r_iload (q := 375) C 1 dL_law_373 rfl rfl ?_
              refine r_icmp_eq (t := 380) (q := 378) C dL_law_375 (by decide) rfl (fun c225 => ?_) (fun c225 => ?_)
              · replace hf := m_if1 hf c225
                refine r_iload (q := 382) C 1 dL_law_380 rfl rfl ?_
                refine r_if_ne (t := 397) (q := 385) C dL_law_382 (by decide) rfl (fun c226 => ?_) (fun c226 => ?_)
                · replace hf := m_if1 hf c226
                  refine r_goto (t := 2259) C dL_law_397 (by decide) ?_
                  obtain ⟨v227, e228, hf⟩ := m_lt_of hf
                  refine r_iinc (q := 2262) (v := v227) (L' := [(5, .int v227), (7, .int v222), (6, .int v217), (0, .ref b9), (1, .ref a1), (2, .ref a2), (3, .ref a3), (4, .ref a4)]) C 7 dL_law_2259 rfl (by rw [e228]; rfl) rfl (by decide) rfl ?_
                  refine r_goto (t := 28) C dL_law_2262 (by decide) ?_
                  refine r_sub [3, 4, 5, 6, 7, 0] rfl ?_
                  exact ih134 v227 S221 (kk131 + 741) (nn132 + 4446) (by omega) (by omega) hf
                · replace hf := m_if0 hf (fun z => z c226)
                  refine r_aload_n (q := 386) C 5 dL_law_385 rfl rfl ?_
                  refine r_iconst (q := 387) (v := (0 : Int32)) C dL_law_386 (by decide) rfl ?_
                  obtain ⟨g229, hf⟩ := m_gd_of hf
                  obtain ⟨g230, hf⟩ := m_gd_of hf
                  refine r_lald (q := 388) C dL_law_387 ⟨g229, g230⟩ rfl ?_
                  refine r_iload (q := 390) C 0 dL_law_388 rfl rfl ?_
                  refine r_i2l (q := 391) C dL_law_390 rfl ?_
                  refine r_lcmp (q := 392) C dL_law_391 rfl ?_
                  refine r_if_eq (t := 397) (q := 395) C dL_law_392 (by decide) rfl (fun c231 => ?_) (fun c231 => ?_)
                  · replace hf := m_if1 hf c231
                    refine r_goto (t := 2259) C dL_law_397 (by decide) ?_
                    obtain ⟨v232, e233, hf⟩ := m_lt_of hf
                    refine r_iinc (q := 2262) (v := v232) (L' := [(5, .int v232), (7, .int v222), (6, .int v217), (0, .ref b9), (1, .ref a1), (2, .ref a2), (3, .ref a3), (4, .ref a4)]) C 7 dL_law_2259 rfl (by rw [e233]; rfl) rfl (by decide) rfl ?_
                    refine r_goto (t := 28) C dL_law_2262 (by decide) ?_
                    refine r_sub [3, 4, 5, 6, 7, 0] rfl ?_
                    exact ih134 v232 S221 (kk131 + 741) (nn132 + 4446) (by omega) (by omega) hf
                  · replace hf := m_if0 hf c231
                    refine r_sub [] rfl ?_
                    refine r_wid (k' := 381133) (n' := 2300798) (by omega) (by omega) ?_
                    exact J12 S221 hf
              · replace hf := m_if0 hf c225
                refine r_sub [] rfl ?_
                refine r_wid (k' := 381133) (n' := 2300798) (by omega) (by omega) ?_
                exact J14 S221 hf
            · replace hf := m_if0 hf c215
              by_cases c234 : v139 = Int32.ofNat 3
              · replace hf := m_if1 hf c234
                refine r_tsw (N := 0) (t := 400) (v := 3) C dL_law_45 c234 (by decide) (by decide) rfl (by decide) ?_
                refine r_aload_n (q := 401) C 1 dL_law_400 rfl rfl ?_
                obtain ⟨g235, hf⟩ := m_gd_of hf
                obtain ⟨v237, h236, hf⟩ := m_b1_of hf
                refine r_callV (mc := 0) (ms := 0) (q := 404) (st1 := [.int v237]) C (c_X8_errorCode hl h236) rfl w_210 w_211 w_212 w_2 w_213 hd_X8_errorCode rfl (by decide) g235 rfl rfl rfl ⟨(Nat.le_of_ble_eq_true rfl), (Nat.le_of_ble_eq_true rfl)⟩ (Nat.le_of_ble_eq_true rfl) ⟨(Nat.le_trans (show kk131 ≤ 400000 by omega) rmC), (Nat.le_trans (show nn132 ≤ 2400000 by omega) rmS)⟩ dL_law_401 rfl rfl ?_
                refine r_aload_n (q := 405) C 2 dL_law_404 rfl rfl ?_
                obtain ⟨g238, hf⟩ := m_gd_of hf
                obtain ⟨v241, S240, h239, hf⟩ := m_bw_of hf
                refine r_callV (mc := 0) (ms := 0) (q := 408) (st1 := [.int v241, .int v237]) C (c_X9_errorCode hl h239) rfl w_1102 w_1103 w_1104 w_11 w_1105 hd_X9_errorCode rfl (by decide) g238 rfl rfl rfl ⟨(Nat.le_of_ble_eq_true rfl), (Nat.le_of_ble_eq_true rfl)⟩ (Nat.le_of_ble_eq_true rfl) ⟨(Nat.le_trans (show kk131 ≤ 400000 by omega) rmC), (Nat.le_trans (show nn132 ≤ 2400000 by omega) rmS)⟩ dL_law_405 rfl rfl ?_
                refine r_icmp_eq (t := 2259) (q := 411) C dL_law_408 (by decide) rfl (fun c242 => ?_) (fun c242 => ?_)
                · replace hf := m_if1 hf c242
                  obtain ⟨v243, e244, hf⟩ := m_lt_of hf
                  refine r_iinc (q := 2262) (v := v243) (L' := [(5, .int v243), (0, .ref b9), (1, .ref a1), (2, .ref a2), (3, .ref a3), (4, .ref a4)]) C 5 dL_law_2259 rfl (by rw [e244]; rfl) rfl (by decide) rfl ?_
                  refine r_goto (t := 28) C dL_law_2262 (by decide) ?_
                  refine r_sub [1, 2, 3, 4, 5, 0] rfl ?_
                  exact ih134 v243 S240 kk131 nn132 (by omega) (by omega) hf
                · replace hf := m_if0 hf c242
                  refine r_sub [] rfl ?_
                  refine r_wid (k' := 381133) (n' := 2300798) (by omega) (by omega) ?_
                  exact J16 S240 hf
              · replace hf := m_if0 hf c234
                by_cases c245 : v139 = Int32.ofNat 4
                · replace hf := m_if1 hf c245
                  refine r_tsw (N := 0) (t := 413) (v := 4) C dL_law_45 c245 (by decide) (by decide) rfl (by decide) ?_
                  refine r_aload_n (q := 414) C 1 dL_law_413 rfl rfl ?_
                  obtain ⟨g246, hf⟩ := m_gd_of hf
                  obtain ⟨v248, h247, hf⟩ := m_b1_of hf
                  refine r_callV (mc := 0) (ms := 0) (q := 417) (st1 := [.int v248]) C (c_X8_errorPosition hl h247) rfl w_214 w_215 w_216 w_2 w_217 hd_X8_errorPosition rfl (by decide) g246 rfl rfl rfl ⟨(Nat.le_of_ble_eq_true rfl), (Nat.le_of_ble_eq_true rfl)⟩ (Nat.le_of_ble_eq_true rfl) ⟨(Nat.le_trans (show kk131 ≤ 400000 by omega) rmC), (Nat.le_trans (show nn132 ≤ 2400000 by omega) rmS)⟩ dL_law_414 rfl rfl ?_
                  refine r_aload_n (q := 418) C 2 dL_law_417 rfl rfl ?_
                  obtain ⟨g249, hf⟩ := m_gd_of hf
                  obtain ⟨v252, S251, h250, hf⟩ := m_bw_of hf
                  refine r_callV (mc := 0) (ms := 0) (q := 421) (st1 := [.int v252, .int v248]) C (c_X9_errorPosition hl h250) rfl w_1106 w_1107 w_1108 w_11 w_1109 hd_X9_errorPosition rfl (by decide) g249 rfl rfl rfl ⟨(Nat.le_of_ble_eq_true rfl), (Nat.le_of_ble_eq_true rfl)⟩ (Nat.le_of_ble_eq_true rfl) ⟨(Nat.le_trans (show kk131 ≤ 400000 by omega) rmC), (Nat.le_trans (show nn132 ≤ 2400000 by omega) rmS)⟩ dL_law_418 rfl rfl ?_
                  refine r_icmp_eq (t := 2259) (q := 424) C dL_law_421 (by decide) rfl (fun c253 => ?_) (fun c253 => ?_)
                  · replace hf := m_if1 hf c253
                    obtain ⟨v254, e255, hf⟩ := m_lt_of hf
                    refine r_iinc (q := 2262) (v := v254) (L' := [(5, .int v254), (0, .ref b9), (1, .ref a1), (2, .ref a2), (3, .ref a3), (4, .ref a4)]) C 5 dL_law_2259 rfl (by rw [e255]; rfl) rfl (by decide) rfl ?_
                    refine r_goto (t := 28) C dL_law_2262 (by decide) ?_
                    refine r_sub [1, 2, 3, 4, 5, 0] rfl ?_
                    exact ih134 v254 S251 kk131 nn132 (by omega) (by omega) hf
                  · replace hf := m_if0 hf c253
                    refine r_sub [] rfl ?_
                    refine r_wid (k' := 381133) (n' := 2300798) (by omega) (by omega) ?_
                    exact J18 S251 hf
                · replace hf := m_if0 hf c245
                  by_cases c256 : v139 = Int32.ofNat 5
                  · replace hf := m_if1 hf c256
                    refine r_tsw (N := 0) (t := 426) (v := 5) C dL_law_45 c256 (by decide) (by decide) rfl (by decide) ?_
                    refine r_aload_n (q := 427) C 1 dL_law_426 rfl rfl ?_
                    refine r_aload_n (q := 428) C 0 dL_law_427 rfl rfl ?_
                    refine r_iload (q := 430) C 5 dL_law_428 rfl rfl ?_
                    refine r_iconst (q := 431) (v := (1 : Int32)) C dL_law_430 (by decide) rfl ?_
                    refine r_iadd (q := 432) C dL_law_431 rfl ?_
                    obtain ⟨v257, e258, hf⟩ := m_lt_of hf
                    refine r_nm e258 ?_
                    obtain ⟨g259, hf⟩ := m_gd_of hf
                    refine r_sld (q := 433) C T g259 dL_law_432 rfl ?_
                    refine r_aload_n (q := 434) C 3 dL_law_433 rfl rfl ?_
                    obtain ⟨v261, S260, h262, hf⟩ := m_bw_of hf
                    refine x_callW (q := 437) (st1 := [.int v261]) C (c_L_report hl h262) rfl w_525 w_526 w_1 w_527 hd_L_report rfl rfl rfl ⟨(Nat.le_of_ble_eq_true rfl), (Nat.le_of_ble_eq_true rfl)⟩ (Nat.le_of_ble_eq_true rfl) ⟨(Nat.le_trans (show kk131 + 1 ≤ 400000 by omega) rmC), (Nat.le_trans (show nn132 + 6 ≤ 2400000 by omega) rmS)⟩ dL_law_434 rfl rfl rfl ?_
                    refine r_istore (q := 439) (L' := [(6, .int v261), (0, .ref b9), (1, .ref a1), (2, .ref a2), (3, .ref a3), (4, .ref a4), (5, .int v129)]) C dL_law_437 rfl (by decide) rfl ?_
                    refine r_aload_n (q := 440) C 3 dL_law_439 rfl rfl ?_
                    refine r_aload_n (q := 441) C 1 dL_law_440 rfl rfl ?_
                    refine r_iload (q := 443) C 6 dL_law_441 rfl rfl ?_
                    refine r_iconst (q := 444) (v := (1 : Int32)) C dL_law_443 (by decide) rfl ?_
                    refine r_iadd (q := 445) C dL_law_444 rfl ?_
                    obtain ⟨v263, e264, hf⟩ := m_lt_of hf
                    refine r_nm e264 ?_
                    obtain ⟨g265, hf⟩ := m_gd_of hf
                    refine r_sld (q := 446) C T g265 dL_law_445 rfl ?_
                    obtain ⟨g266, hf⟩ := m_gd_of hf
                    obtain ⟨v269, S268, h267, hf⟩ := m_bw_of hf
                    refine r_callV (mc := 0) (ms := 0) (q := 449) (st1 := [.int v269]) C (c_X9_report hl h267) rfl w_1110 w_1111 w_1112 w_11 w_1113 hd_X9_report rfl (by decide) g266 rfl rfl rfl ⟨(Nat.le_of_ble_eq_true rfl), (Nat.le_of_ble_eq_true rfl)⟩ (Nat.le_of_ble_eq_true rfl) ⟨(Nat.le_trans (show kk131 + 1 ≤ 400000 by omega) rmC), (Nat.le_trans (show nn132 + 6 ≤ 2400000 by omega) rmS)⟩ dL_law_446 rfl rfl ?_
                    refine r_istore (q := 451) (L' := [(7, .int v269), (6, .int v261), (0, .ref b9), (1, .ref a1), (2, .ref a2), (3, .ref a3), (4, .ref a4), (5, .int v129)]) C dL_law_449 rfl (by decide) rfl ?_
                    refine r_aload_n (q := 452) C 4 dL_law_451 rfl rfl ?_
                    obtain ⟨v271, h270, hf⟩ := m_b1_of hf
                    refine r_callV (mc := 0) (ms := 0) (q := 455) (st1 := [.int v271]) C (c_X9_thrown hl h270) rfl w_1016 w_1017 w_1018 w_11 w_1019 hd_X9_thrown rfl (by decide) g266 rfl rfl rfl ⟨(Nat.le_of_ble_eq_true rfl), (Nat.le_of_ble_eq_true rfl)⟩ (Nat.le_of_ble_eq_true rfl) ⟨(Nat.le_trans (show kk131 + 1 ≤ 400000 by omega) rmC), (Nat.le_trans (show nn132 + 6 ≤ 2400000 by omega) rmS)⟩ dL_law_452 rfl rfl ?_
                    refine r_iload (q := 457) C 1 dL_law_455 rfl rfl ?_
                    refine r_icmp_eq (t := 462) (q := 460) C dL_law_457 (by decide) rfl (fun c272 => ?_) (fun c272 => ?_)
                    · replace hf := m_if1 hf c272
                      refine r_iload (q := 464) C 1 dL_law_462 rfl rfl ?_
                      refine r_if_ne (t := 479) (q := 467) C dL_law_464 (by decide) rfl (fun c273 => ?_) (fun c273 => ?_)
                      · replace hf := m_if1 hf c273
                        refine r_goto (t := 2259) C dL_law_479 (by decide) ?_
                        obtain ⟨v274, e275, hf⟩ := m_lt_of hf
                        refine r_iinc (q := 2262) (v := v274) (L' := [(5, .int v274), (7, .int v269), (6, .int v261), (0, .ref b9), (1, .ref a1), (2, .ref a2), (3, .ref a3), (4, .ref a4)]) C 7 dL_law_2259 rfl (by rw [e275]; rfl) rfl (by decide) rfl ?_
                        refine r_goto (t := 28) C dL_law_2262 (by decide) ?_
                        refine r_sub [3, 4, 5, 6, 7, 0] rfl ?_
                        exact ih134 v274 S268 (kk131 + 1) (nn132 + 6) (by omega) (by omega) hf
                      · replace hf := m_if0 hf (fun z => z c273)
                        refine r_aload_n (q := 468) C 5 dL_law_467 rfl rfl ?_
                        refine r_iconst (q := 469) (v := (0 : Int32)) C dL_law_468 (by decide) rfl ?_
                        obtain ⟨g276, hf⟩ := m_gd_of hf
                        obtain ⟨g277, hf⟩ := m_gd_of hf
                        refine r_lald (q := 470) C dL_law_469 ⟨g276, g277⟩ rfl ?_
                        refine r_iload (q := 472) C 0 dL_law_470 rfl rfl ?_
                        refine r_i2l (q := 473) C dL_law_472 rfl ?_
                        refine r_lcmp (q := 474) C dL_law_473 rfl ?_
                        refine r_if_eq (t := 479) (q := 477) C dL_law_474 (by decide) rfl (fun c278 => ?_) (fun c278 => ?_)
                        · replace hf := m_if1 hf c278
                          refine r_goto (t := 2259) C dL_law_479 (by decide) ?_
                          obtain ⟨v279, e280, hf⟩ := m_lt_of hf
                          refine r_iinc (q := 2262) (v := v279) (L' := [(5, .int v279), (7, .int v269), (6, .int v261), (0, .ref b9), (1, .ref a1), (2, .ref a2), (3, .ref a3), (4, .ref a4)]) C 7 dL_law_2259 rfl (by rw [e280]; rfl) rfl (by decide) rfl ?_
                          refine r_goto (t := 28) C dL_law_2262 (by decide) ?_
                          refine r_sub [3, 4, 5, 6, 7, 0] rfl ?_
                          exact ih134 v279 S268 (kk131 + 1) (nn132 + 6) (by omega) (by omega) hf
                        · replace hf := m_if0 hf c278
                          refine r_sub [] rfl ?_
                          refine r_wid (k' := 381133) (n' := 2300798) (by omega) (by omega) ?_
                          exact J20 S268 hf
                    · replace hf := m_if0 hf c272
                      refine r_sub [] rfl ?_
                      refine r_wid (k' := 381133) (n' := 2300798) (by omega) (by omega) ?_
                      exact J22 S268 hf
                  · replace hf := m_if0 hf c256
                    by_cases c281 : v139 = Int32.ofNat 6
                    · replace hf := m_if1 hf c281
                      refine r_tsw (N := 0) (t := 482) (v := 6) C dL_law_45 c281 (by decide) (by decide) rfl (by decide) ?_
                      refine r_aload_n (q := 483) C 1 dL_law_482 rfl rfl ?_
                      refine r_aload_n (q := 484) C 0 dL_law_483 rfl rfl ?_
                      refine r_iload (q := 486) C 5 dL_law_484 rfl rfl ?_
                      refine r_iconst (q := 487) (v := (1 : Int32)) C dL_law_486 (by decide) rfl ?_
                      refine r_iadd (q := 488) C dL_law_487 rfl ?_
                      obtain ⟨v282, e283, hf⟩ := m_lt_of hf
                      refine r_nm e283 ?_
                      obtain ⟨g284, hf⟩ := m_gd_of hf
                      refine r_sld (q := 489) C T g284 dL_law_488 rfl ?_
                      refine r_aload_n (q := 490) C 3 dL_law_489 rfl rfl ?_
                      obtain ⟨v286, S285, h287, hf⟩ := m_bw_of hf
                      refine x_callW (q := 493) (st1 := [.int v286]) C (c_L_setPoint hl h287) rfl w_555 w_556 w_1 w_557 hd_L_setPoint rfl rfl rfl ⟨(Nat.le_of_ble_eq_true rfl), (Nat.le_of_ble_eq_true rfl)⟩ (Nat.le_of_ble_eq_true rfl) ⟨(Nat.le_trans (show kk131 + 1 ≤ 400000 by omega) rmC), (Nat.le_trans (show nn132 + 6 ≤ 2400000 by omega) rmS)⟩ dL_law_490 rfl rfl rfl ?_
                      refine r_istore (q := 495) (L' := [(6, .int v286), (0, .ref b9), (1, .ref a1), (2, .ref a2), (3, .ref a3), (4, .ref a4), (5, .int v129)]) C dL_law_493 rfl (by decide) rfl ?_
                      refine r_aload_n (q := 496) C 3 dL_law_495 rfl rfl ?_
                      refine r_aload_n (q := 497) C 1 dL_law_496 rfl rfl ?_
                      refine r_iload (q := 499) C 6 dL_law_497 rfl rfl ?_
                      refine r_iconst (q := 500) (v := (1 : Int32)) C dL_law_499 (by decide) rfl ?_
                      refine r_iadd (q := 501) C dL_law_500 rfl ?_
                      obtain ⟨v288, e289, hf⟩ := m_lt_of hf
                      refine r_nm e289 ?_
                      obtain ⟨g290, hf⟩ := m_gd_of hf
                      refine r_sld (q := 502) C T g290 dL_law_501 rfl ?_
                      obtain ⟨g291, hf⟩ := m_gd_of hf
                      obtain ⟨v294, S293, h292, hf⟩ := m_bw_of hf
                      refine r_callV (mc := 0) (ms := 0) (q := 505) (st1 := [.int v294]) C (c_X9_setPoint hl h292) rfl w_1123 w_1124 w_1125 w_11 w_1126 hd_X9_setPoint rfl (by decide) g291 rfl rfl rfl ⟨(Nat.le_of_ble_eq_true rfl), (Nat.le_of_ble_eq_true rfl)⟩ (Nat.le_of_ble_eq_true rfl) ⟨(Nat.le_trans (show kk131 + 1 ≤ 400000 by omega) rmC), (Nat.le_trans (show nn132 + 6 ≤ 2400000 by omega) rmS)⟩ dL_law_502 rfl rfl ?_
                      refine r_istore (q := 507) (L' := [(7, .int v294), (6, .int v286), (0, .ref b9), (1, .ref a1), (2, .ref a2), (3, .ref a3), (4, .ref a4), (5, .int v129)]) C dL_law_505 rfl (by decide) rfl ?_
                      refine r_aload_n (q := 508) C 4 dL_law_507 rfl rfl ?_
                      obtain ⟨v296, h295, hf⟩ := m_b1_of hf
                      refine r_callV (mc := 0) (ms := 0) (q := 511) (st1 := [.int v296]) C (c_X9_thrown hl h295) rfl w_1016 w_1017 w_1018 w_11 w_1019 hd_X9_thrown rfl (by decide) g291 rfl rfl rfl ⟨(Nat.le_of_ble_eq_true rfl), (Nat.le_of_ble_eq_true rfl)⟩ (Nat.le_of_ble_eq_true rfl) ⟨(Nat.le_trans (show kk131 + 1 ≤ 400000 by omega) rmC), (Nat.le_trans (show nn132 + 6 ≤ 2400000 by omega) rmS)⟩ dL_law_508 rfl rfl ?_
                      refine r_iload (q := 513) C 1 dL_law_511 rfl rfl ?_
                      refine r_icmp_eq (t := 518) (q := 516) C dL_law_513 (by decide) rfl (fun c297 => ?_) (fun c297 => ?_)
                      · replace hf := m_if1 hf c297
                        refine r_iload (q := 520) C 1 dL_law_518 rfl rfl ?_
                        refine r_if_ne (t := 535) (q := 523) C dL_law_520 (by decide) rfl (fun c298 => ?_) (fun c298 => ?_)
                        · replace hf := m_if1 hf c298
                          refine r_goto (t := 2259) C dL_law_535 (by decide) ?_
                          obtain ⟨v299, e300, hf⟩ := m_lt_of hf
                          refine r_iinc (q := 2262) (v := v299) (L' := [(5, .int v299), (7, .int v294), (6, .int v286), (0, .ref b9), (1, .ref a1), (2, .ref a2), (3, .ref a3), (4, .ref a4)]) C 7 dL_law_2259 rfl (by rw [e300]; rfl) rfl (by decide) rfl ?_
                          refine r_goto (t := 28) C dL_law_2262 (by decide) ?_
                          refine r_sub [3, 4, 5, 6, 7, 0] rfl ?_
                          exact ih134 v299 S293 (kk131 + 1) (nn132 + 6) (by omega) (by omega) hf
                        · replace hf := m_if0 hf (fun z => z c298)
                          refine r_aload_n (q := 524) C 5 dL_law_523 rfl rfl ?_
                          refine r_iconst (q := 525) (v := (0 : Int32)) C dL_law_524 (by decide) rfl ?_
                          obtain ⟨g301, hf⟩ := m_gd_of hf
                          obtain ⟨g302, hf⟩ := m_gd_of hf
                          refine r_lald (q := 526) C dL_law_525 ⟨g301, g302⟩ rfl ?_
                          refine r_iload (q := 528) C 0 dL_law_526 rfl rfl ?_
                          refine r_i2l (q := 529) C dL_law_528 rfl ?_
                          refine r_lcmp (q := 530) C dL_law_529 rfl ?_
                          refine r_if_eq (t := 535) (q := 533) C dL_law_530 (by decide) rfl (fun c303 => ?_) (fun c303 => ?_)
                          · replace hf := m_if1 hf c303
                            refine r_goto (t := 2259) C dL_law_535 (by decide) ?_
                            obtain ⟨v304, e305, hf⟩ := m_lt_of hf
                            refine r_iinc (q := 2262) (v := v304) (L' := [(5, .int v304), (7, .int v294), (6, .int v286), (0, .ref b9), (1, .ref a1), (2, .ref a2), (3, .ref a3), (4, .ref a4)]) C 7 dL_law_2259 rfl (by rw [e305]; rfl) rfl (by decide) rfl ?_
                            refine r_goto (t := 28) C dL_law_2262 (by decide) ?_
                            refine r_sub [3, 4, 5, 6, 7, 0] rfl ?_
                            exact ih134 v304 S293 (kk131 + 1) (nn132 + 6) (by omega) (by omega) hf
                          · replace hf := m_if0 hf c303
                            refine r_sub [] rfl ?_
                            refine r_wid (k' := 381133) (n' := 2300798) (by omega) (by omega) ?_
                            exact J24 S293 hf
                      · replace hf := m_if0 hf c297
                        refine r_sub [] rfl ?_
                        refine r_wid (k' := 381133) (n' := 2300798) (by omega) (by omega) ?_
                        exact J26 S293 hf
                    · replace hf := m_if0 hf c281
                      by_cases c306 : v139 = Int32.ofNat 7
                      · replace hf := m_if1 hf c306
                        refine r_tsw (N := 0) (t := 538) (v := 7) C dL_law_45 c306 (by decide) (by decide) rfl (by decide) ?_
                        refine r_aload_n (q := 539) C 1 dL_law_538 rfl rfl ?_
                        refine r_aload_n (q := 540) C 0 dL_law_539 rfl rfl ?_
                        refine r_iload (q := 542) C 5 dL_law_540 rfl rfl ?_
                        refine r_iconst (q := 543) (v := (1 : Int32)) C dL_law_542 (by decide) rfl ?_
                        refine r_iadd (q := 544) C dL_law_543 rfl ?_
                        obtain ⟨v307, e308, hf⟩ := m_lt_of hf
                        refine r_nm e308 ?_
                        obtain ⟨g309, hf⟩ := m_gd_of hf
                        refine r_sld (q := 545) C T g309 dL_law_544 rfl ?_
                        refine r_aload_n (q := 546) C 3 dL_law_545 rfl rfl ?_
                        obtain ⟨v311, S310, h312, hf⟩ := m_bw_of hf
                        refine x_callW (q := 549) (st1 := [.int v311]) C (c_L_visitors hl h312) rfl w_563 w_564 w_1 w_565 hd_L_visitors rfl rfl rfl ⟨(Nat.le_of_ble_eq_true rfl), (Nat.le_of_ble_eq_true rfl)⟩ (Nat.le_of_ble_eq_true rfl) ⟨(Nat.le_trans (show kk131 + 1 ≤ 400000 by omega) rmC), (Nat.le_trans (show nn132 + 6 ≤ 2400000 by omega) rmS)⟩ dL_law_546 rfl rfl rfl ?_
                        refine r_istore (q := 551) (L' := [(6, .int v311), (0, .ref b9), (1, .ref a1), (2, .ref a2), (3, .ref a3), (4, .ref a4), (5, .int v129)]) C dL_law_549 rfl (by decide) rfl ?_
                        refine r_aload_n (q := 552) C 3 dL_law_551 rfl rfl ?_
                        refine r_aload_n (q := 553) C 1 dL_law_552 rfl rfl ?_
                        refine r_iload (q := 555) C 6 dL_law_553 rfl rfl ?_
                        refine r_iconst (q := 556) (v := (1 : Int32)) C dL_law_555 (by decide) rfl ?_
                        refine r_iadd (q := 557) C dL_law_556 rfl ?_
                        obtain ⟨v313, e314, hf⟩ := m_lt_of hf
                        refine r_nm e314 ?_
                        obtain ⟨g315, hf⟩ := m_gd_of hf
                        refine r_sld (q := 558) C T g315 dL_law_557 rfl ?_
                        obtain ⟨g316, hf⟩ := m_gd_of hf
                        obtain ⟨v319, S318, h317, hf⟩ := m_bw_of hf
                        refine r_callV (mc := 0) (ms := 0) (q := 561) (st1 := [.int v319]) C (c_X9_visitors_ hl h317) rfl w_1127 w_1128 w_1129 w_11 w_1130 hd_X9_visitors_ rfl (by decide) g316 rfl rfl rfl ⟨(Nat.le_of_ble_eq_true rfl), (Nat.le_of_ble_eq_true rfl)⟩ (Nat.le_of_ble_eq_true rfl) ⟨(Nat.le_trans (show kk131 + 1 ≤ 400000 by omega) rmC), (Nat.le_trans (show nn132 + 6 ≤ 2400000 by omega) rmS)⟩ dL_law_558 rfl rfl ?_
                        refine r_istore (q := 563) (L' := [(7, .int v319), (6, .int v311), (0, .ref b9), (1, .ref a1), (2, .ref a2), (3, .ref a3), (4, .ref a4), (5, .int v129)]) C dL_law_561 rfl (by decide) rfl ?_
                        refine r_aload_n (q := 564) C 4 dL_law_563 rfl rfl ?_
                        obtain ⟨v321, h320, hf⟩ := m_b1_of hf
                        refine r_callV (mc := 0) (ms := 0) (q := 567) (st1 := [.int v321]) C (c_X9_thrown hl h320) rfl w_1016 w_1017 w_1018 w_11 w_1019 hd_X9_thrown rfl (by decide) g316 rfl rfl rfl ⟨(Nat.le_of_ble_eq_true rfl), (Nat.le_of_ble_eq_true rfl)⟩ (Nat.le_of_ble_eq_true rfl) ⟨(Nat.le_trans (show kk131 + 1 ≤ 400000 by omega) rmC), (Nat.le_trans (show nn132 + 6 ≤ 2400000 by omega) rmS)⟩ dL_law_564 rfl rfl ?_
                        refine r_iload (q := 569) C 1 dL_law_567 rfl rfl ?_
                        refine r_icmp_eq (t := 574) (q := 572) C dL_law_569 (by decide) rfl (fun c322 => ?_) (fun c322 => ?_)
                        · replace hf := m_if1 hf c322
                          refine r_iload (q := 576) C 1 dL_law_574 rfl rfl ?_
                          refine r_if_ne (t := 591) (q := 579) C dL_law_576 (by decide) rfl (fun c323 => ?_) (fun c323 => ?_)
                          · replace hf := m_if1 hf c323
                            refine r_goto (t := 2259) C dL_law_591 (by decide) ?_
                            obtain ⟨v324, e325, hf⟩ := m_lt_of hf
                            refine r_iinc (q := 2262) (v := v324) (L' := [(5, .int v324), (7, .int v319), (6, .int v311), (0, .ref b9), (1, .ref a1), (2, .ref a2), (3, .ref a3), (4, .ref a4)]) C 7 dL_law_2259 rfl (by rw [e325]; rfl) rfl (by decide) rfl ?_
                            refine r_goto (t := 28) C dL_law_2262 (by decide) ?_
                            refine r_sub [3, 4, 5, 6, 7, 0] rfl ?_
                            exact ih134 v324 S318 (kk131 + 1) (nn132 + 6) (by omega) (by omega) hf
                          · replace hf := m_if0 hf (fun z => z c323)
                            refine r_aload_n (q := 580) C 5 dL_law_579 rfl rfl ?_
                            refine r_iconst (q := 581) (v := (0 : Int32)) C dL_law_580 (by decide) rfl ?_
                            obtain ⟨g326, hf⟩ := m_gd_of hf
                            obtain ⟨g327, hf⟩ := m_gd_of hf
                            refine r_lald (q := 582) C dL_law_581 ⟨g326, g327⟩ rfl ?_
                            refine r_iload (q := 584) C 0 dL_law_582 rfl rfl ?_
                            refine r_i2l (q := 585) C dL_law_584 rfl ?_
                            refine r_lcmp (q := 586) C dL_law_585 rfl ?_
                            refine r_if_eq (t := 591) (q := 589) C dL_law_586 (by decide) rfl (fun c328 => ?_) (fun c328 => ?_)
                            · replace hf := m_if1 hf c328
                              refine r_goto (t := 2259) C dL_law_591 (by decide) ?_
                              obtain ⟨v329, e330, hf⟩ := m_lt_of hf
                              refine r_iinc (q := 2262) (v := v329) (L' := [(5, .int v329), (7, .int v319), (6, .int v311), (0, .ref b9), (1, .ref a1), (2, .ref a2), (3, .ref a3), (4, .ref a4)]) C 7 dL_law_2259 rfl (by rw [e330]; rfl) rfl (by decide) rfl ?_
                              refine r_goto (t := 28) C dL_law_2262 (by decide) ?_
                              refine r_sub [3, 4, 5, 6, 7, 0] rfl ?_
                              exact ih134 v329 S318 (kk131 + 1) (nn132 + 6) (by omega) (by omega) hf
                            · replace hf := m_if0 hf c328
                              refine r_sub [] rfl ?_
                              refine r_wid (k' := 381133) (n' := 2300798) (by omega) (by omega) ?_
                              exact J28 S318 hf
                        · replace hf := m_if0 hf c322
                          refine r_sub [] rfl ?_
                          refine r_wid (k' := 381133) (n' := 2300798) (by omega) (by omega) ?_
                          exact J30 S318 hf
                      · replace hf := m_if0 hf c306
                        by_cases c331 : v139 = Int32.ofNat 8
                        · replace hf := m_if1 hf c331
                          refine r_tsw (N := 0) (t := 594) (v := 8) C dL_law_45 c331 (by decide) (by decide) rfl (by decide) ?_
                          refine r_aload_n (q := 595) C 1 dL_law_594 rfl rfl ?_
                          refine r_aload_n (q := 596) C 0 dL_law_595 rfl rfl ?_
                          refine r_iload (q := 598) C 5 dL_law_596 rfl rfl ?_
                          refine r_iconst (q := 599) (v := (1 : Int32)) C dL_law_598 (by decide) rfl ?_
                          refine r_iadd (q := 600) C dL_law_599 rfl ?_
                          obtain ⟨v332, e333, hf⟩ := m_lt_of hf
                          refine r_nm e333 ?_
                          obtain ⟨g334, hf⟩ := m_gd_of hf
                          refine r_sld (q := 601) C T g334 dL_law_600 rfl ?_
                          refine r_aload_n (q := 602) C 0 dL_law_601 rfl rfl ?_
                          refine r_iload (q := 604) C 5 dL_law_602 rfl rfl ?_
                          refine r_iconst (q := 605) (v := (2 : Int32)) C dL_law_604 (by decide) rfl ?_
                          refine r_iadd (q := 606) C dL_law_605 rfl ?_
                          obtain ⟨v335, e336, hf⟩ := m_lt_of hf
                          refine r_nm e336 ?_
                          obtain ⟨g337, hf⟩ := m_gd_of hf
                          refine r_sld (q := 607) C T g337 dL_law_606 rfl ?_
                          refine r_aload_n (q := 608) C 3 dL_law_607 rfl rfl ?_
                          obtain ⟨v339, S338, h340, hf⟩ := m_bw_of hf
                          refine x_callW (q := 611) (st1 := [.int v339]) C (c_L_content hl h340) rfl w_574 w_575 w_1 w_576 hd_L_content rfl rfl rfl ⟨(Nat.le_of_ble_eq_true rfl), (Nat.le_of_ble_eq_true rfl)⟩ (Nat.le_of_ble_eq_true rfl) ⟨(Nat.le_trans (show kk131 + 1 ≤ 400000 by omega) rmC), (Nat.le_trans (show nn132 + 6 ≤ 2400000 by omega) rmS)⟩ dL_law_608 rfl rfl rfl ?_
                          refine r_istore (q := 613) (L' := [(6, .int v339), (0, .ref b9), (1, .ref a1), (2, .ref a2), (3, .ref a3), (4, .ref a4), (5, .int v129)]) C dL_law_611 rfl (by decide) rfl ?_
                          refine r_aload_n (q := 614) C 3 dL_law_613 rfl rfl ?_
                          refine r_aload_n (q := 615) C 1 dL_law_614 rfl rfl ?_
                          refine r_iload (q := 617) C 6 dL_law_615 rfl rfl ?_
                          refine r_iconst (q := 618) (v := (1 : Int32)) C dL_law_617 (by decide) rfl ?_
                          refine r_iadd (q := 619) C dL_law_618 rfl ?_
                          obtain ⟨v341, e342, hf⟩ := m_lt_of hf
                          refine r_nm e342 ?_
                          obtain ⟨g343, hf⟩ := m_gd_of hf
                          refine r_sld (q := 620) C T g343 dL_law_619 rfl ?_
                          refine r_aload_n (q := 621) C 1 dL_law_620 rfl rfl ?_
                          refine r_iload (q := 623) C 6 dL_law_621 rfl rfl ?_
                          refine r_iconst (q := 624) (v := (2 : Int32)) C dL_law_623 (by decide) rfl ?_
                          refine r_iadd (q := 625) C dL_law_624 rfl ?_
                          obtain ⟨v344, e345, hf⟩ := m_lt_of hf
                          refine r_nm e345 ?_
                          obtain ⟨g346, hf⟩ := m_gd_of hf
                          refine r_sld (q := 626) C T g346 dL_law_625 rfl ?_
                          obtain ⟨g347, hf⟩ := m_gd_of hf
                          obtain ⟨v350, S349, h348, hf⟩ := m_bw_of hf
                          refine r_callV (mc := 0) (ms := 0) (q := 629) (st1 := [.int v350]) C (c_X9_content hl h348) rfl w_1131 w_1132 w_1133 w_11 w_1134 hd_X9_content rfl (by decide) g347 rfl rfl rfl ⟨(Nat.le_of_ble_eq_true rfl), (Nat.le_of_ble_eq_true rfl)⟩ (Nat.le_of_ble_eq_true rfl) ⟨(Nat.le_trans (show kk131 + 1 ≤ 400000 by omega) rmC), (Nat.le_trans (show nn132 + 6 ≤ 2400000 by omega) rmS)⟩ dL_law_626 rfl rfl ?_
                          refine r_istore (q := 631) (L' := [(7, .int v350), (6, .int v339), (0, .ref b9), (1, .ref a1), (2, .ref a2), (3, .ref a3), (4, .ref a4), (5, .int v129)]) C dL_law_629 rfl (by decide) rfl ?_
                          refine r_aload_n (q := 632) C 4 dL_law_631 rfl rfl ?_
                          obtain ⟨v352, h351, hf⟩ := m_b1_of hf
                          refine r_callV (mc := 0) (ms := 0) (q := 635) (st1 := [.int v352]) C (c_X9_thrown hl h351) rfl w_1016 w_1017 w_1018 w_11 w_1019 hd_X9_thrown rfl (by decide) g347 rfl rfl rfl ⟨(Nat.le_of_ble_eq_true rfl), (Nat.le_of_ble_eq_true rfl)⟩ (Nat.le_of_ble_eq_true rfl) ⟨(Nat.le_trans (show kk131 + 1 ≤ 400000 by omega) rmC), (Nat.le_trans (show nn132 + 6 ≤ 2400000 by omega) rmS)⟩ dL_law_632 rfl rfl ?_
                          refine r_iload (q := 637) C 1 dL_law_635 rfl rfl ?_
                          refine r_icmp_eq (t := 642) (q := 640) C dL_law_637 (by decide) rfl (fun c353 => ?_) (fun c353 => ?_)
                          · replace hf := m_if1 hf c353
                            refine r_iload (q := 644) C 1 dL_law_642 rfl rfl ?_
                            refine r_if_ne (t := 659) (q := 647) C dL_law_644 (by decide) rfl (fun c354 => ?_) (fun c354 => ?_)
                            · replace hf := m_if1 hf c354
                              refine r_goto (t := 2259) C dL_law_659 (by decide) ?_
                              obtain ⟨v355, e356, hf⟩ := m_lt_of hf
                              refine r_iinc (q := 2262) (v := v355) (L' := [(5, .int v355), (7, .int v350), (6, .int v339), (0, .ref b9), (1, .ref a1), (2, .ref a2), (3, .ref a3), (4, .ref a4)]) C 7 dL_law_2259 rfl (by rw [e356]; rfl) rfl (by decide) rfl ?_
                              refine r_goto (t := 28) C dL_law_2262 (by decide) ?_
                              refine r_sub [3, 4, 5, 6, 7, 0] rfl ?_
                              exact ih134 v355 S349 (kk131 + 1) (nn132 + 6) (by omega) (by omega) hf
                            · replace hf := m_if0 hf (fun z => z c354)
                              refine r_aload_n (q := 648) C 5 dL_law_647 rfl rfl ?_
                              refine r_iconst (q := 649) (v := (0 : Int32)) C dL_law_648 (by decide) rfl ?_
                              obtain ⟨g357, hf⟩ := m_gd_of hf
                              obtain ⟨g358, hf⟩ := m_gd_of hf
                              refine r_lald (q := 650) C dL_law_649 ⟨g357, g358⟩ rfl ?_
                              refine r_iload (q := 652) C 0 dL_law_650 rfl rfl ?_
                              refine r_i2l (q := 653) C dL_law_652 rfl ?_
                              refine r_lcmp (q := 654) C dL_law_653 rfl ?_
                              refine r_if_eq (t := 659) (q := 657) C dL_law_654 (by decide) rfl (fun c359 => ?_) (fun c359 => ?_)
                              · replace hf := m_if1 hf c359
                                refine r_goto (t := 2259) C dL_law_659 (by decide) ?_
                                obtain ⟨v360, e361, hf⟩ := m_lt_of hf
                                refine r_iinc (q := 2262) (v := v360) (L' := [(5, .int v360), (7, .int v350), (6, .int v339), (0, .ref b9), (1, .ref a1), (2, .ref a2), (3, .ref a3), (4, .ref a4)]) C 7 dL_law_2259 rfl (by rw [e361]; rfl) rfl (by decide) rfl ?_
                                refine r_goto (t := 28) C dL_law_2262 (by decide) ?_
                                refine r_sub [3, 4, 5, 6, 7, 0] rfl ?_
                                exact ih134 v360 S349 (kk131 + 1) (nn132 + 6) (by omega) (by omega) hf
                              · replace hf := m_if0 hf c359
                                refine r_sub [] rfl ?_
                                refine r_wid (k' := 381133) (n' := 2300798) (by omega) (by omega) ?_
                                exact J32 S349 hf
                          · replace hf := m_if0 hf c353
                            refine r_sub [] rfl ?_
                            refine r_wid (k' := 381133) (n' := 2300798) (by omega) (by omega) ?_
                            exact J34 S349 hf
                        · replace hf := m_if0 hf c331
                          by_cases c362 : v139 = Int32.ofNat 9
                          · replace hf := m_if1 hf c362
                            refine r_tsw (N := 0) (t := 662) (v := 9) C dL_law_45 c362 (by decide) (by decide) rfl (by decide) ?_
                            refine r_aload_n (q := 663) C 1 dL_law_662 rfl rfl ?_
                            refine r_aload_n (q := 664) C 0 dL_law_663 rfl rfl ?_
                            refine r_iload (q := 666) C 5 dL_law_664 rfl rfl ?_
                            refine r_iconst (q := 667) (v := (1 : Int32)) C dL_law_666 (by decide) rfl ?_
                            refine r_iadd (q := 668) C dL_law_667 rfl ?_
                            obtain ⟨v363, e364, hf⟩ := m_lt_of hf
                            refine r_nm e364 ?_
                            obtain ⟨g365, hf⟩ := m_gd_of hf
                            refine r_sld (q := 669) C T g365 dL_law_668 rfl ?_
                            refine r_aload_n (q := 670) C 3 dL_law_669 rfl rfl ?_
                            obtain ⟨v367, S366, h368, hf⟩ := m_bw_of hf
                            refine x_callW (q := 673) (st1 := [.int v367]) C (c_L_announce hl h368) rfl w_585 w_586 w_1 w_587 hd_L_announce rfl rfl rfl ⟨(Nat.le_of_ble_eq_true rfl), (Nat.le_of_ble_eq_true rfl)⟩ (Nat.le_of_ble_eq_true rfl) ⟨(Nat.le_trans (show kk131 + 1 ≤ 400000 by omega) rmC), (Nat.le_trans (show nn132 + 6 ≤ 2400000 by omega) rmS)⟩ dL_law_670 rfl rfl rfl ?_
                            refine r_istore (q := 675) (L' := [(6, .int v367), (0, .ref b9), (1, .ref a1), (2, .ref a2), (3, .ref a3), (4, .ref a4), (5, .int v129)]) C dL_law_673 rfl (by decide) rfl ?_
                            refine r_aload_n (q := 676) C 3 dL_law_675 rfl rfl ?_
                            refine r_aload_n (q := 677) C 1 dL_law_676 rfl rfl ?_
                            refine r_iload (q := 679) C 6 dL_law_677 rfl rfl ?_
                            refine r_iconst (q := 680) (v := (1 : Int32)) C dL_law_679 (by decide) rfl ?_
                            refine r_iadd (q := 681) C dL_law_680 rfl ?_
                            obtain ⟨v369, e370, hf⟩ := m_lt_of hf
                            refine r_nm e370 ?_
                            obtain ⟨g371, hf⟩ := m_gd_of hf
                            refine r_sld (q := 682) C T g371 dL_law_681 rfl ?_
                            obtain ⟨g372, hf⟩ := m_gd_of hf
                            obtain ⟨v375, S374, h373, hf⟩ := m_bw_of hf
                            refine r_callV (mc := 0) (ms := 0) (q := 685) (st1 := [.int v375]) C (c_X9_announce hl h373) rfl w_1138 w_1139 w_1140 w_11 w_1141 hd_X9_announce rfl (by decide) g372 rfl rfl rfl ⟨(Nat.le_of_ble_eq_true rfl), (Nat.le_of_ble_eq_true rfl)⟩ (Nat.le_of_ble_eq_true rfl) ⟨(Nat.le_trans (show kk131 + 1 ≤ 400000 by omega) rmC), (Nat.le_trans (show nn132 + 6 ≤ 2400000 by omega) rmS)⟩ dL_law_682 rfl rfl ?_
                            refine r_istore (q := 687) (L' := [(7, .int v375), (6, .int v367), (0, .ref b9), (1, .ref a1), (2, .ref a2), (3, .ref a3), (4, .ref a4), (5, .int v129)]) C dL_law_685 rfl (by decide) rfl ?_
                            refine r_aload_n (q := 688) C 4 dL_law_687 rfl rfl ?_
                            obtain ⟨v377, h376, hf⟩ := m_b1_of hf
                            refine r_callV (mc := 0) (ms := 0) (q := 691) (st1 := [.int v377]) C (c_X9_thrown hl h376) rfl w_1016 w_1017 w_1018 w_11 w_1019 hd_X9_thrown rfl (by decide) g372 rfl rfl rfl ⟨(Nat.le_of_ble_eq_true rfl), (Nat.le_of_ble_eq_true rfl)⟩ (Nat.le_of_ble_eq_true rfl) ⟨(Nat.le_trans (show kk131 + 1 ≤ 400000 by omega) rmC), (Nat.le_trans (show nn132 + 6 ≤ 2400000 by omega) rmS)⟩ dL_law_688 rfl rfl ?_
                            refine r_iload (q := 693) C 1 dL_law_691 rfl rfl ?_
                            refine r_icmp_eq (t := 698) (q := 696) C dL_law_693 (by decide) rfl (fun c378 => ?_) (fun c378 => ?_)
                            · replace hf := m_if1 hf c378
                              refine r_iload (q := 700) C 1 dL_law_698 rfl rfl ?_
                              refine r_if_ne (t := 715) (q := 703) C dL_law_700 (by decide) rfl (fun c379 => ?_) (fun c379 => ?_)
                              · replace hf := m_if1 hf c379
                                refine r_goto (t := 2259) C dL_law_715 (by decide) ?_
                                obtain ⟨v380, e381, hf⟩ := m_lt_of hf
                                refine r_iinc (q := 2262) (v := v380) (L' := [(5, .int v380), (7, .int v375), (6, .int v367), (0, .ref b9), (1, .ref a1), (2, .ref a2), (3, .ref a3), (4, .ref a4)]) C 7 dL_law_2259 rfl (by rw [e381]; rfl) rfl (by decide) rfl ?_
                                refine r_goto (t := 28) C dL_law_2262 (by decide) ?_
                                refine r_sub [3, 4, 5, 6, 7, 0] rfl ?_
                                exact ih134 v380 S374 (kk131 + 1) (nn132 + 6) (by omega) (by omega) hf
                              · replace hf := m_if0 hf (fun z => z c379)
                                refine r_aload_n (q := 704) C 5 dL_law_703 rfl rfl ?_
                                refine r_iconst (q := 705) (v := (0 : Int32)) C dL_law_704 (by decide) rfl ?_
                                obtain ⟨g382, hf⟩ := m_gd_of hf
                                obtain ⟨g383, hf⟩ := m_gd_of hf
                                refine r_lald (q := 706) C dL_law_705 ⟨g382, g383⟩ rfl ?_
                                refine r_iload (q := 708) C 0 dL_law_706 rfl rfl ?_
                                refine r_i2l (q := 709) C dL_law_708 rfl ?_
                                refine r_lcmp (q := 710) C dL_law_709 rfl ?_
                                refine r_if_eq (t := 715) (q := 713) C dL_law_710 (by decide) rfl (fun c384 => ?_) (fun c384 => ?_)
                                · replace hf := m_if1 hf c384
                                  refine r_goto (t := 2259) C dL_law_715 (by decide) ?_
                                  obtain ⟨v385, e386, hf⟩ := m_lt_of hf
                                  refine r_iinc (q := 2262) (v := v385) (L' := [(5, .int v385), (7, .int v375), (6, .int v367), (0, .ref b9), (1, .ref a1), (2, .ref a2), (3, .ref a3), (4, .ref a4)]) C 7 dL_law_2259 rfl (by rw [e386]; rfl) rfl (by decide) rfl ?_
                                  refine r_goto (t := 28) C dL_law_2262 (by decide) ?_
                                  refine r_sub [3, 4, 5, 6, 7, 0] rfl ?_
                                  exact ih134 v385 S374 (kk131 + 1) (nn132 + 6) (by omega) (by omega) hf
                                · replace hf := m_if0 hf c384
                                  refine r_sub [] rfl ?_
                                  refine r_wid (k' := 381133) (n' := 2300798) (by omega) (by omega) ?_
                                  exact J36 S374 hf
                            · replace hf := m_if0 hf c378
                              refine r_sub [] rfl ?_
                              refine r_wid (k' := 381133) (n' := 2300798) (by omega) (by omega) ?_
                              exact J38 S374 hf
                          · replace hf := m_if0 hf c362
                            by_cases c387 : v139 = Int32.ofNat 10
                            · replace hf := m_if1 hf c387
                              refine r_tsw (N := 0) (t := 718) (v := 10) C dL_law_45 c387 (by decide) (by decide) rfl (by decide) ?_
                              refine r_aload_n (q := 719) C 1 dL_law_718 rfl rfl ?_
                              refine r_aload_n (q := 720) C 0 dL_law_719 rfl rfl ?_
                              refine r_iload (q := 722) C 5 dL_law_720 rfl rfl ?_
                              refine r_iconst (q := 723) (v := (1 : Int32)) C dL_law_722 (by decide) rfl ?_
                              refine r_iadd (q := 724) C dL_law_723 rfl ?_
                              obtain ⟨v388, e389, hf⟩ := m_lt_of hf
                              refine r_nm e389 ?_
                              obtain ⟨g390, hf⟩ := m_gd_of hf
                              refine r_sld (q := 725) C T g390 dL_law_724 rfl ?_
                              refine r_aload_n (q := 726) C 0 dL_law_725 rfl rfl ?_
                              refine r_iload (q := 728) C 5 dL_law_726 rfl rfl ?_
                              refine r_iconst (q := 729) (v := (2 : Int32)) C dL_law_728 (by decide) rfl ?_
                              refine r_iadd (q := 730) C dL_law_729 rfl ?_
                              obtain ⟨v391, e392, hf⟩ := m_lt_of hf
                              refine r_nm e392 ?_
                              obtain ⟨g393, hf⟩ := m_gd_of hf
                              refine r_sld (q := 731) C T g393 dL_law_730 rfl ?_
                              refine r_aload_n (q := 732) C 3 dL_law_731 rfl rfl ?_
                              obtain ⟨v395, S394, h396, hf⟩ := m_bw_of hf
                              refine x_callW (q := 735) (st1 := [.int v395]) C (c_L_displayCase hl h396) rfl w_592 w_593 w_1 w_594 hd_L_displayCase rfl rfl rfl ⟨(Nat.le_of_ble_eq_true rfl), (Nat.le_of_ble_eq_true rfl)⟩ (Nat.le_of_ble_eq_true rfl) ⟨(Nat.le_trans (show kk131 + 3 ≤ 400000 by omega) rmC), (Nat.le_trans (show nn132 + 18 ≤ 2400000 by omega) rmS)⟩ dL_law_732 rfl rfl rfl ?_
                              refine r_istore (q := 737) (L' := [(6, .int v395), (0, .ref b9), (1, .ref a1), (2, .ref a2), (3, .ref a3), (4, .ref a4), (5, .int v129)]) C dL_law_735 rfl (by decide) rfl ?_
                              refine r_aload_n (q := 738) C 3 dL_law_737 rfl rfl ?_
                              refine r_aload_n (q := 739) C 1 dL_law_738 rfl rfl ?_
                              refine r_iload (q := 741) C 6 dL_law_739 rfl rfl ?_
                              refine r_iconst (q := 742) (v := (1 : Int32)) C dL_law_741 (by decide) rfl ?_
                              refine r_iadd (q := 743) C dL_law_742 rfl ?_
                              obtain ⟨v397, e398, hf⟩ := m_lt_of hf
                              refine r_nm e398 ?_
                              obtain ⟨g399, hf⟩ := m_gd_of hf
                              refine r_sld (q := 744) C T g399 dL_law_743 rfl ?_
                              refine r_aload_n (q := 745) C 1 dL_law_744 rfl rfl ?_
                              refine r_iload (q := 747) C 6 dL_law_745 rfl rfl ?_
                              refine r_iconst (q := 748) (v := (2 : Int32)) C dL_law_747 (by decide) rfl ?_
                              refine r_iadd (q := 749) C dL_law_748 rfl ?_
                              obtain ⟨v400, e401, hf⟩ := m_lt_of hf
                              refine r_nm e401 ?_
                              obtain ⟨g402, hf⟩ := m_gd_of hf
                              refine r_sld (q := 750) C T g402 dL_law_749 rfl ?_
                              obtain ⟨g403, hf⟩ := m_gd_of hf
                              obtain ⟨v406, S405, h404, hf⟩ := m_bw_of hf
                              refine r_callV (mc := 0) (ms := 0) (q := 753) (st1 := [.int v406]) C (c_X9_displayCase hl h404) rfl w_1142 w_1143 w_1144 w_11 w_1145 hd_X9_displayCase rfl (by decide) g403 rfl rfl rfl ⟨(Nat.le_of_ble_eq_true rfl), (Nat.le_of_ble_eq_true rfl)⟩ (Nat.le_of_ble_eq_true rfl) ⟨(Nat.le_trans (show kk131 + 3 ≤ 400000 by omega) rmC), (Nat.le_trans (show nn132 + 18 ≤ 2400000 by omega) rmS)⟩ dL_law_750 rfl rfl ?_
                              refine r_istore (q := 755) (L' := [(7, .int v406), (6, .int v395), (0, .ref b9), (1, .ref a1), (2, .ref a2), (3, .ref a3), (4, .ref a4), (5, .int v129)]) C dL_law_753 rfl (by decide) rfl ?_
                              refine r_aload_n (q := 756) C 4 dL_law_755 rfl rfl ?_
                              obtain ⟨v408, h407, hf⟩ := m_b1_of hf
                              refine r_callV (mc := 0) (ms := 0) (q := 759) (st1 := [.int v408]) C (c_X9_thrown hl h407) rfl w_1016 w_1017 w_1018 w_11 w_1019 hd_X9_thrown rfl (by decide) g403 rfl rfl rfl ⟨(Nat.le_of_ble_eq_true rfl), (Nat.le_of_ble_eq_true rfl)⟩ (Nat.le_of_ble_eq_true rfl) ⟨(Nat.le_trans (show kk131 + 3 ≤ 400000 by omega) rmC), (Nat.le_trans (show nn132 + 18 ≤ 2400000 by omega) rmS)⟩ dL_law_756 rfl rfl ?_
                              refine r_iload (q := 761) C 1 dL_law_759 rfl rfl ?_
                              refine r_icmp_eq (t := 766) (q := 764) C dL_law_761 (by decide) rfl (fun c409 => ?_) (fun c409 => ?_)
                              · replace hf := m_if1 hf c409
                                refine r_iload (q := 768) C 1 dL_law_766 rfl rfl ?_
                                refine r_if_ne (t := 783) (q := 771) C dL_law_768 (by decide) rfl (fun c410 => ?_) (fun c410 => ?_)
                                · replace hf := m_if1 hf c410
                                  refine r_goto (t := 2259) C dL_law_783 (by decide) ?_
                                  obtain ⟨v411, e412, hf⟩ := m_lt_of hf
                                  refine r_iinc (q := 2262) (v := v411) (L' := [(5, .int v411), (7, .int v406), (6, .int v395), (0, .ref b9), (1, .ref a1), (2, .ref a2), (3, .ref a3), (4, .ref a4)]) C 7 dL_law_2259 rfl (by rw [e412]; rfl) rfl (by decide) rfl ?_
                                  refine r_goto (t := 28) C dL_law_2262 (by decide) ?_
                                  refine r_sub [3, 4, 5, 6, 7, 0] rfl ?_
                                  exact ih134 v411 S405 (kk131 + 3) (nn132 + 18) (by omega) (by omega) hf
                                · replace hf := m_if0 hf (fun z => z c410)
                                  refine r_aload_n (q := 772) C 5 dL_law_771 rfl rfl ?_
                                  refine r_iconst (q := 773) (v := (0 : Int32)) C dL_law_772 (by decide) rfl ?_
                                  obtain ⟨g413, hf⟩ := m_gd_of hf
                                  obtain ⟨g414, hf⟩ := m_gd_of hf
                                  refine r_lald (q := 774) C dL_law_773 ⟨g413, g414⟩ rfl ?_
                                  refine r_iload (q := 776) C 0 dL_law_774 rfl rfl ?_
                                  refine r_i2l (q := 777) C dL_law_776 rfl ?_
                                  refine r_lcmp (q := 778) C dL_law_777 rfl ?_
                                  refine r_if_eq (t := 783) (q := 781) C dL_law_778 (by decide) rfl (fun c415 => ?_) (fun c415 => ?_)
                                  · replace hf := m_if1 hf c415
                                    refine r_goto (t := 2259) C dL_law_783 (by decide) ?_
                                    obtain ⟨v416, e417, hf⟩ := m_lt_of hf
                                    refine r_iinc (q := 2262) (v := v416) (L' := [(5, .int v416), (7, .int v406), (6, .int v395), (0, .ref b9), (1, .ref a1), (2, .ref a2), (3, .ref a3), (4, .ref a4)]) C 7 dL_law_2259 rfl (by rw [e417]; rfl) rfl (by decide) rfl ?_
                                    refine r_goto (t := 28) C dL_law_2262 (by decide) ?_
                                    refine r_sub [3, 4, 5, 6, 7, 0] rfl ?_
                                    exact ih134 v416 S405 (kk131 + 3) (nn132 + 18) (by omega) (by omega) hf
                                  · replace hf := m_if0 hf c415
                                    refine r_sub [] rfl ?_
                                    refine r_wid (k' := 381133) (n' := 2300798) (by omega) (by omega) ?_
                                    exact J40 S405 hf
                              · replace hf := m_if0 hf c409
                                refine r_sub [] rfl ?_
                                refine r_wid (k' := 381133) (n' := 2300798) (by omega) (by omega) ?_
                                exact J42 S405 hf
                            · replace hf := m_if0 hf c387
                              by_cases c418 : v139 = Int32.ofNat 11
                              · replace hf := m_if1 hf c418
                                refine r_tsw (N := 0) (t := 786) (v := 11) C dL_law_45 c418 (by decide) (by decide) rfl (by decide) ?_
                                refine r_aload_n (q := 787) C 1 dL_law_786 rfl rfl ?_
                                refine r_aload_n (q := 788) C 0 dL_law_787 rfl rfl ?_
                                refine r_iload (q := 790) C 5 dL_law_788 rfl rfl ?_
                                refine r_iconst (q := 791) (v := (1 : Int32)) C dL_law_790 (by decide) rfl ?_
                                refine r_iadd (q := 792) C dL_law_791 rfl ?_
                                obtain ⟨v419, e420, hf⟩ := m_lt_of hf
                                refine r_nm e420 ?_
                                obtain ⟨g421, hf⟩ := m_gd_of hf
                                refine r_sld (q := 793) C T g421 dL_law_792 rfl ?_
                                refine r_aload_n (q := 794) C 0 dL_law_793 rfl rfl ?_
                                refine r_iload (q := 796) C 5 dL_law_794 rfl rfl ?_
                                refine r_iconst (q := 797) (v := (2 : Int32)) C dL_law_796 (by decide) rfl ?_
                                refine r_iadd (q := 798) C dL_law_797 rfl ?_
                                obtain ⟨v422, e423, hf⟩ := m_lt_of hf
                                refine r_nm e423 ?_
                                obtain ⟨g424, hf⟩ := m_gd_of hf
                                refine r_sld (q := 799) C T g424 dL_law_798 rfl ?_
                                refine r_aload_n (q := 800) C 3 dL_law_799 rfl rfl ?_
                                obtain ⟨v426, S425, h427, hf⟩ := m_bw_of hf
                                refine x_callW (q := 803) (st1 := [.int v426]) C (c_L_balance hl h427) rfl w_610 w_611 w_1 w_612 hd_L_balance rfl rfl rfl ⟨(Nat.le_of_ble_eq_true rfl), (Nat.le_of_ble_eq_true rfl)⟩ (Nat.le_of_ble_eq_true rfl) ⟨(Nat.le_trans (show kk131 + 3 ≤ 400000 by omega) rmC), (Nat.le_trans (show nn132 + 18 ≤ 2400000 by omega) rmS)⟩ dL_law_800 rfl rfl rfl ?_
                                refine r_istore (q := 805) (L' := [(6, .int v426), (0, .ref b9), (1, .ref a1), (2, .ref a2), (3, .ref a3), (4, .ref a4), (5, .int v129)]) C dL_law_803 rfl (by decide) rfl ?_
                                refine r_aload_n (q := 806) C 3 dL_law_805 rfl rfl ?_
                                refine r_aload_n (q := 807) C 1 dL_law_806 rfl rfl ?_
                                refine r_iload (q := 809) C 6 dL_law_807 rfl rfl ?_
                                refine r_iconst (q := 810) (v := (1 : Int32)) C dL_law_809 (by decide) rfl ?_
                                refine r_iadd (q := 811) C dL_law_810 rfl ?_
                                obtain ⟨v428, e429, hf⟩ := m_lt_of hf
                                refine r_nm e429 ?_
                                obtain ⟨g430, hf⟩ := m_gd_of hf
                                refine r_sld (q := 812) C T g430 dL_law_811 rfl ?_
                                refine r_aload_n (q := 813) C 1 dL_law_812 rfl rfl ?_
                                refine r_iload (q := 815) C 6 dL_law_813 rfl rfl ?_
                                refine r_iconst (q := 816) (v := (2 : Int32)) C dL_law_815 (by decide) rfl ?_
                                refine r_iadd (q := 817) C dL_law_816 rfl ?_
                                obtain ⟨v431, e432, hf⟩ := m_lt_of hf
                                refine r_nm e432 ?_
                                obtain ⟨g433, hf⟩ := m_gd_of hf
                                refine r_sld (q := 818) C T g433 dL_law_817 rfl ?_
                                obtain ⟨g434, hf⟩ := m_gd_of hf
                                obtain ⟨w437, S436, h435, hf⟩ := m_bw_of hf
                                refine r_callV (mc := 0) (ms := 0) (q := 821) (st1 := [.long w437]) C (c_X9_balance hl h435) rfl w_1153 w_1154 w_1155 w_11 w_1156 hd_X9_balance rfl (by decide) g434 rfl rfl rfl ⟨(Nat.le_of_ble_eq_true rfl), (Nat.le_of_ble_eq_true rfl)⟩ (Nat.le_of_ble_eq_true rfl) ⟨(Nat.le_trans (show kk131 + 3 ≤ 400000 by omega) rmC), (Nat.le_trans (show nn132 + 18 ≤ 2400000 by omega) rmS)⟩ dL_law_818 rfl rfl ?_
                                refine r_lstore (q := 823) (L' := [(7, .long w437), (6, .int v426), (0, .ref b9), (1, .ref a1), (2, .ref a2), (3, .ref a3), (4, .ref a4), (5, .int v129)]) C dL_law_821 rfl (by decide) rfl ?_
                                refine r_aload_n (q := 824) C 4 dL_law_823 rfl rfl ?_
                                obtain ⟨v439, h438, hf⟩ := m_b1_of hf
                                refine r_callV (mc := 0) (ms := 0) (q := 827) (st1 := [.int v439]) C (c_X9_thrown hl h438) rfl w_1016 w_1017 w_1018 w_11 w_1019 hd_X9_thrown rfl (by decide) g434 rfl rfl rfl ⟨(Nat.le_of_ble_eq_true rfl), (Nat.le_of_ble_eq_true rfl)⟩ (Nat.le_of_ble_eq_true rfl) ⟨(Nat.le_trans (show kk131 + 3 ≤ 400000 by omega) rmC), (Nat.le_trans (show nn132 + 18 ≤ 2400000 by omega) rmS)⟩ dL_law_824 rfl rfl ?_
                                refine r_iload (q := 829) C 1 dL_law_827 rfl rfl ?_
                                refine r_icmp_eq (t := 834) (q := 832) C dL_law_829 (by decide) rfl (fun c440 => ?_) (fun c440 => ?_)
                                · replace hf := m_if1 hf c440
                                  refine r_iload (q := 836) C 1 dL_law_834 rfl rfl ?_
                                  refine r_if_ne (t := 850) (q := 839) C dL_law_836 (by decide) rfl (fun c441 => ?_) (fun c441 => ?_)
                                  · replace hf := m_if1 hf c441
                                    refine r_goto (t := 2259) C dL_law_850 (by decide) ?_
                                    obtain ⟨v442, e443, hf⟩ := m_lt_of hf
                                    refine r_iinc (q := 2262) (v := v442) (L' := [(5, .int v442), (7, .long w437), (6, .int v426), (0, .ref b9), (1, .ref a1), (2, .ref a2), (3, .ref a3), (4, .ref a4)]) C 7 dL_law_2259 rfl (by rw [e443]; rfl) rfl (by decide) rfl ?_
                                    refine r_goto (t := 28) C dL_law_2262 (by decide) ?_
                                    refine r_sub [3, 4, 5, 6, 7, 0] rfl ?_
                                    exact ih134 v442 S436 (kk131 + 3) (nn132 + 18) (by omega) (by omega) hf
                                  · replace hf := m_if0 hf (fun z => z c441)
                                    refine r_aload_n (q := 840) C 5 dL_law_839 rfl rfl ?_
                                    refine r_iconst (q := 841) (v := (0 : Int32)) C dL_law_840 (by decide) rfl ?_
                                    obtain ⟨g444, hf⟩ := m_gd_of hf
                                    obtain ⟨g445, hf⟩ := m_gd_of hf
                                    refine r_lald (q := 842) C dL_law_841 ⟨g444, g445⟩ rfl ?_
                                    refine r_lload (q := 844) C 0 dL_law_842 rfl rfl ?_
                                    refine r_lcmp (q := 845) C dL_law_844 rfl ?_
                                    refine r_if_eq (t := 850) (q := 848) C dL_law_845 (by decide) rfl (fun c446 => ?_) (fun c446 => ?_)
                                    · replace hf := m_if1 hf c446
                                      refine r_goto (t := 2259) C dL_law_850 (by decide) ?_
                                      obtain ⟨v447, e448, hf⟩ := m_lt_of hf
                                      refine r_iinc (q := 2262) (v := v447) (L' := [(5, .int v447), (7, .long w437), (6, .int v426), (0, .ref b9), (1, .ref a1), (2, .ref a2), (3, .ref a3), (4, .ref a4)]) C 7 dL_law_2259 rfl (by rw [e448]; rfl) rfl (by decide) rfl ?_
                                      refine r_goto (t := 28) C dL_law_2262 (by decide) ?_
                                      refine r_sub [3, 4, 5, 6, 7, 0] rfl ?_
                                      exact ih134 v447 S436 (kk131 + 3) (nn132 + 18) (by omega) (by omega) hf
                                    · replace hf := m_if0 hf c446
                                      refine r_sub [] rfl ?_
                                      refine r_wid (k' := 381133) (n' := 2300798) (by omega) (by omega) ?_
                                      exact J44 S436 hf
                                · replace hf := m_if0 hf c440
                                  refine r_sub [] rfl ?_
                                  refine r_wid (k' := 381133) (n' := 2300798) (by omega) (by omega) ?_
                                  exact J46 S436 hf
                              · replace hf := m_if0 hf c418
                                by_cases c449 : v139 = Int32.ofNat 12
                                · replace hf := m_if1 hf c449
                                  refine r_tsw (N := 0) (t := 853) (v := 12) C dL_law_45 c449 (by decide) (by decide) rfl (by decide) ?_
                                  refine r_aload_n (q := 854) C 1 dL_law_853 rfl rfl ?_
                                  refine r_aload_n (q := 855) C 0 dL_law_854 rfl rfl ?_
                                  refine r_iload (q := 857) C 5 dL_law_855 rfl rfl ?_
                                  refine r_iconst (q := 858) (v := (1 : Int32)) C dL_law_857 (by decide) rfl ?_
                                  refine r_iadd (q := 859) C dL_law_858 rfl ?_
                                  obtain ⟨v450, e451, hf⟩ := m_lt_of hf
                                  refine r_nm e451 ?_
                                  obtain ⟨g452, hf⟩ := m_gd_of hf
                                  refine r_sld (q := 860) C T g452 dL_law_859 rfl ?_
                                  refine r_aload_n (q := 861) C 0 dL_law_860 rfl rfl ?_
                                  refine r_iload (q := 863) C 5 dL_law_861 rfl rfl ?_
                                  refine r_iconst (q := 864) (v := (2 : Int32)) C dL_law_863 (by decide) rfl ?_
                                  refine r_iadd (q := 865) C dL_law_864 rfl ?_
                                  obtain ⟨v453, e454, hf⟩ := m_lt_of hf
                                  refine r_nm e454 ?_
                                  obtain ⟨g455, hf⟩ := m_gd_of hf
                                  refine r_sld (q := 866) C T g455 dL_law_865 rfl ?_
                                  refine r_aload_n (q := 867) C 3 dL_law_866 rfl rfl ?_
                                  obtain ⟨v457, S456, h458, hf⟩ := m_bw_of hf
                                  refine x_callW (q := 870) (st1 := [.int v457]) C (c_L_recorded hl h458) rfl w_618 w_619 w_1 w_620 hd_L_recorded rfl rfl rfl ⟨(Nat.le_of_ble_eq_true rfl), (Nat.le_of_ble_eq_true rfl)⟩ (Nat.le_of_ble_eq_true rfl) ⟨(Nat.le_trans (show kk131 + 2 ≤ 400000 by omega) rmC), (Nat.le_trans (show nn132 + 12 ≤ 2400000 by omega) rmS)⟩ dL_law_867 rfl rfl rfl ?_
                                  refine r_istore (q := 872) (L' := [(6, .int v457), (0, .ref b9), (1, .ref a1), (2, .ref a2), (3, .ref a3), (4, .ref a4), (5, .int v129)]) C dL_law_870 rfl (by decide) rfl ?_
                                  refine r_aload_n (q := 873) C 3 dL_law_872 rfl rfl ?_
                                  refine r_aload_n (q := 874) C 1 dL_law_873 rfl rfl ?_
                                  refine r_iload (q := 876) C 6 dL_law_874 rfl rfl ?_
                                  refine r_iconst (q := 877) (v := (1 : Int32)) C dL_law_876 (by decide) rfl ?_
                                  refine r_iadd (q := 878) C dL_law_877 rfl ?_
                                  obtain ⟨v459, e460, hf⟩ := m_lt_of hf
                                  refine r_nm e460 ?_
                                  obtain ⟨g461, hf⟩ := m_gd_of hf
                                  refine r_sld (q := 879) C T g461 dL_law_878 rfl ?_
                                  refine r_aload_n (q := 880) C 1 dL_law_879 rfl rfl ?_
                                  refine r_iload (q := 882) C 6 dL_law_880 rfl rfl ?_
                                  refine r_iconst (q := 883) (v := (2 : Int32)) C dL_law_882 (by decide) rfl ?_
                                  refine r_iadd (q := 884) C dL_law_883 rfl ?_
                                  obtain ⟨v462, e463, hf⟩ := m_lt_of hf
                                  refine r_nm e463 ?_
                                  obtain ⟨g464, hf⟩ := m_gd_of hf
                                  refine r_sld (q := 885) C T g464 dL_law_884 rfl ?_
                                  obtain ⟨g465, hf⟩ := m_gd_of hf
                                  obtain ⟨v468, S467, h466, hf⟩ := m_bw_of hf
                                  refine r_callV (mc := 0) (ms := 0) (q := 888) (st1 := [.int v468]) C (c_X9_recorded hl h466) rfl w_1157 w_1158 w_1159 w_11 w_1160 hd_X9_recorded rfl (by decide) g465 rfl rfl rfl ⟨(Nat.le_of_ble_eq_true rfl), (Nat.le_of_ble_eq_true rfl)⟩ (Nat.le_of_ble_eq_true rfl) ⟨(Nat.le_trans (show kk131 + 2 ≤ 400000 by omega) rmC), (Nat.le_trans (show nn132 + 12 ≤ 2400000 by omega) rmS)⟩ dL_law_885 rfl rfl ?_
                                  refine r_istore (q := 890) (L' := [(7, .int v468), (6, .int v457), (0, .ref b9), (1, .ref a1), (2, .ref a2), (3, .ref a3), (4, .ref a4), (5, .int v129)]) C dL_law_888 rfl (by decide) rfl ?_
                                  refine r_aload_n (q := 891) C 4 dL_law_890 rfl rfl ?_
                                  obtain ⟨v470, h469, hf⟩ := m_b1_of hf
                                  refine r_callV (mc := 0) (ms := 0) (q := 894) (st1 := [.int v470]) C (c_X9_thrown hl h469) rfl w_1016 w_1017 w_1018 w_11 w_1019 hd_X9_thrown rfl (by decide) g465 rfl rfl rfl ⟨(Nat.le_of_ble_eq_true rfl), (Nat.le_of_ble_eq_true rfl)⟩ (Nat.le_of_ble_eq_true rfl) ⟨(Nat.le_trans (show kk131 + 2 ≤ 400000 by omega) rmC), (Nat.le_trans (show nn132 + 12 ≤ 2400000 by omega) rmS)⟩ dL_law_891 rfl rfl ?_
                                  refine r_iload (q := 896) C 1 dL_law_894 rfl rfl ?_
                                  refine r_icmp_eq (t := 901) (q := 899) C dL_law_896 (by decide) rfl (fun c471 => ?_) (fun c471 => ?_)
                                  · replace hf := m_if1 hf c471
                                    refine r_iload (q := 903) C 1 dL_law_901 rfl rfl ?_
                                    refine r_if_ne (t := 918) (q := 906) C dL_law_903 (by decide) rfl (fun c472 => ?_) (fun c472 => ?_)
                                    · replace hf := m_if1 hf c472
                                      refine r_goto (t := 2259) C dL_law_918 (by decide) ?_
                                      obtain ⟨v473, e474, hf⟩ := m_lt_of hf
                                      refine r_iinc (q := 2262) (v := v473) (L' := [(5, .int v473), (7, .int v468), (6, .int v457), (0, .ref b9), (1, .ref a1), (2, .ref a2), (3, .ref a3), (4, .ref a4)]) C 7 dL_law_2259 rfl (by rw [e474]; rfl) rfl (by decide) rfl ?_
                                      refine r_goto (t := 28) C dL_law_2262 (by decide) ?_
                                      refine r_sub [3, 4, 5, 6, 7, 0] rfl ?_
                                      exact ih134 v473 S467 (kk131 + 2) (nn132 + 12) (by omega) (by omega) hf
                                    · replace hf := m_if0 hf (fun z => z c472)
                                      refine r_aload_n (q := 907) C 5 dL_law_906 rfl rfl ?_
                                      refine r_iconst (q := 908) (v := (0 : Int32)) C dL_law_907 (by decide) rfl ?_
                                      obtain ⟨g475, hf⟩ := m_gd_of hf
                                      obtain ⟨g476, hf⟩ := m_gd_of hf
                                      refine r_lald (q := 909) C dL_law_908 ⟨g475, g476⟩ rfl ?_
                                      refine r_iload (q := 911) C 0 dL_law_909 rfl rfl ?_
                                      refine r_i2l (q := 912) C dL_law_911 rfl ?_
                                      refine r_lcmp (q := 913) C dL_law_912 rfl ?_
                                      refine r_if_eq (t := 918) (q := 916) C dL_law_913 (by decide) rfl (fun c477 => ?_) (fun c477 => ?_)
                                      · replace hf := m_if1 hf c477
                                        refine r_goto (t := 2259) C dL_law_918 (by decide) ?_
                                        obtain ⟨v478, e479, hf⟩ := m_lt_of hf
                                        refine r_iinc (q := 2262) (v := v478) (L' := [(5, .int v478), (7, .int v468), (6, .int v457), (0, .ref b9), (1, .ref a1), (2, .ref a2), (3, .ref a3), (4, .ref a4)]) C 7 dL_law_2259 rfl (by rw [e479]; rfl) rfl (by decide) rfl ?_
                                        refine r_goto (t := 28) C dL_law_2262 (by decide) ?_
                                        refine r_sub [3, 4, 5, 6, 7, 0] rfl ?_
                                        exact ih134 v478 S467 (kk131 + 2) (nn132 + 12) (by omega) (by omega) hf
                                      · replace hf := m_if0 hf c477
                                        refine r_sub [] rfl ?_
                                        refine r_wid (k' := 381133) (n' := 2300798) (by omega) (by omega) ?_
                                        exact J48 S467 hf
                                  · replace hf := m_if0 hf c471
                                    refine r_sub [] rfl ?_
                                    refine r_wid (k' := 381133) (n' := 2300798) (by omega) (by omega) ?_
                                    exact J50 S467 hf
                                · replace hf := m_if0 hf c449
                                  by_cases c480 : v139 = Int32.ofNat 13
                                  · replace hf := m_if1 hf c480
                                    refine r_tsw (N := 0) (t := 921) (v := 13) C dL_law_45 c480 (by decide) (by decide) rfl (by decide) ?_
                                    refine r_aload_n (q := 922) C 1 dL_law_921 rfl rfl ?_
                                    refine r_aload_n (q := 923) C 0 dL_law_922 rfl rfl ?_
                                    refine r_iload (q := 925) C 5 dL_law_923 rfl rfl ?_
                                    refine r_iconst (q := 926) (v := (1 : Int32)) C dL_law_925 (by decide) rfl ?_
                                    refine r_iadd (q := 927) C dL_law_926 rfl ?_
                                    obtain ⟨v481, e482, hf⟩ := m_lt_of hf
                                    refine r_nm e482 ?_
                                    obtain ⟨g483, hf⟩ := m_gd_of hf
                                    refine r_sld (q := 928) C T g483 dL_law_927 rfl ?_
                                    refine r_aload_n (q := 929) C 3 dL_law_928 rfl rfl ?_
                                    obtain ⟨v485, S484, h486, hf⟩ := m_bw_of hf
                                    refine x_callW (q := 932) (st1 := [.int v485]) C (c_L_swing hl h486) rfl w_643 w_644 w_1 w_645 hd_L_swing rfl rfl rfl ⟨(Nat.le_of_ble_eq_true rfl), (Nat.le_of_ble_eq_true rfl)⟩ (Nat.le_of_ble_eq_true rfl) ⟨(Nat.le_trans (show kk131 + 2 ≤ 400000 by omega) rmC), (Nat.le_trans (show nn132 + 12 ≤ 2400000 by omega) rmS)⟩ dL_law_929 rfl rfl rfl ?_
                                    refine r_istore (q := 934) (L' := [(6, .int v485), (0, .ref b9), (1, .ref a1), (2, .ref a2), (3, .ref a3), (4, .ref a4), (5, .int v129)]) C dL_law_932 rfl (by decide) rfl ?_
                                    refine r_aload_n (q := 935) C 3 dL_law_934 rfl rfl ?_
                                    refine r_aload_n (q := 936) C 1 dL_law_935 rfl rfl ?_
                                    refine r_iload (q := 938) C 6 dL_law_936 rfl rfl ?_
                                    refine r_iconst (q := 939) (v := (1 : Int32)) C dL_law_938 (by decide) rfl ?_
                                    refine r_iadd (q := 940) C dL_law_939 rfl ?_
                                    obtain ⟨v487, e488, hf⟩ := m_lt_of hf
                                    refine r_nm e488 ?_
                                    obtain ⟨g489, hf⟩ := m_gd_of hf
                                    refine r_sld (q := 941) C T g489 dL_law_940 rfl ?_
                                    obtain ⟨g490, hf⟩ := m_gd_of hf
                                    obtain ⟨v493, S492, h491, hf⟩ := m_bw_of hf
                                    refine r_callV (mc := 0) (ms := 0) (q := 944) (st1 := [.int v493]) C (c_X9_swing hl h491) rfl w_1164 w_1165 w_1166 w_11 w_1167 hd_X9_swing rfl (by decide) g490 rfl rfl rfl ⟨(Nat.le_of_ble_eq_true rfl), (Nat.le_of_ble_eq_true rfl)⟩ (Nat.le_of_ble_eq_true rfl) ⟨(Nat.le_trans (show kk131 + 2 ≤ 400000 by omega) rmC), (Nat.le_trans (show nn132 + 12 ≤ 2400000 by omega) rmS)⟩ dL_law_941 rfl rfl ?_
                                    refine r_istore (q := 946) (L' := [(7, .int v493), (6, .int v485), (0, .ref b9), (1, .ref a1), (2, .ref a2), (3, .ref a3), (4, .ref a4), (5, .int v129)]) C dL_law_944 rfl (by decide) rfl ?_
                                    refine r_aload_n (q := 947) C 4 dL_law_946 rfl rfl ?_
                                    obtain ⟨v495, h494, hf⟩ := m_b1_of hf
                                    refine r_callV (mc := 0) (ms := 0) (q := 950) (st1 := [.int v495]) C (c_X9_thrown hl h494) rfl w_1016 w_1017 w_1018 w_11 w_1019 hd_X9_thrown rfl (by decide) g490 rfl rfl rfl ⟨(Nat.le_of_ble_eq_true rfl), (Nat.le_of_ble_eq_true rfl)⟩ (Nat.le_of_ble_eq_true rfl) ⟨(Nat.le_trans (show kk131 + 2 ≤ 400000 by omega) rmC), (Nat.le_trans (show nn132 + 12 ≤ 2400000 by omega) rmS)⟩ dL_law_947 rfl rfl ?_
                                    refine r_iload (q := 952) C 1 dL_law_950 rfl rfl ?_
                                    refine r_icmp_eq (t := 957) (q := 955) C dL_law_952 (by decide) rfl (fun c496 => ?_) (fun c496 => ?_)
                                    · replace hf := m_if1 hf c496
                                      refine r_iload (q := 959) C 1 dL_law_957 rfl rfl ?_
                                      refine r_if_ne (t := 974) (q := 962) C dL_law_959 (by decide) rfl (fun c497 => ?_) (fun c497 => ?_)
                                      · replace hf := m_if1 hf c497
                                        refine r_goto (t := 2259) C dL_law_974 (by decide) ?_
                                        obtain ⟨v498, e499, hf⟩ := m_lt_of hf
                                        refine r_iinc (q := 2262) (v := v498) (L' := [(5, .int v498), (7, .int v493), (6, .int v485), (0, .ref b9), (1, .ref a1), (2, .ref a2), (3, .ref a3), (4, .ref a4)]) C 7 dL_law_2259 rfl (by rw [e499]; rfl) rfl (by decide) rfl ?_
                                        refine r_goto (t := 28) C dL_law_2262 (by decide) ?_
                                        refine r_sub [3, 4, 5, 6, 7, 0] rfl ?_
                                        exact ih134 v498 S492 (kk131 + 2) (nn132 + 12) (by omega) (by omega) hf
                                      · replace hf := m_if0 hf (fun z => z c497)
                                        refine r_aload_n (q := 963) C 5 dL_law_962 rfl rfl ?_
                                        refine r_iconst (q := 964) (v := (0 : Int32)) C dL_law_963 (by decide) rfl ?_
                                        obtain ⟨g500, hf⟩ := m_gd_of hf
                                        obtain ⟨g501, hf⟩ := m_gd_of hf
                                        refine r_lald (q := 965) C dL_law_964 ⟨g500, g501⟩ rfl ?_
                                        refine r_iload (q := 967) C 0 dL_law_965 rfl rfl ?_
                                        refine r_i2l (q := 968) C dL_law_967 rfl ?_
                                        refine r_lcmp (q := 969) C dL_law_968 rfl ?_
                                        refine r_if_eq (t := 974) (q := 972) C dL_law_969 (by decide) rfl (fun c502 => ?_) (fun c502 => ?_)
                                        · replace hf := m_if1 hf c502
                                          refine r_goto (t := 2259) C dL_law_974 (by decide) ?_
                                          obtain ⟨v503, e504, hf⟩ := m_lt_of hf
                                          refine r_iinc (q := 2262) (v := v503) (L' := [(5, .int v503), (7, .int v493), (6, .int v485), (0, .ref b9), (1, .ref a1), (2, .ref a2), (3, .ref a3), (4, .ref a4)]) C 7 dL_law_2259 rfl (by rw [e504]; rfl) rfl (by decide) rfl ?_
                                          refine r_goto (t := 28) C dL_law_2262 (by decide) ?_
                                          refine r_sub [3, 4, 5, 6, 7, 0] rfl ?_
                                          exact ih134 v503 S492 (kk131 + 2) (nn132 + 12) (by omega) (by omega) hf
                                        · replace hf := m_if0 hf c502
                                          refine r_sub [] rfl ?_
                                          refine r_wid (k' := 381133) (n' := 2300798) (by omega) (by omega) ?_
                                          exact J52 S492 hf
                                    · replace hf := m_if0 hf c496
                                      refine r_sub [] rfl ?_
                                      refine r_wid (k' := 381133) (n' := 2300798) (by omega) (by omega) ?_
                                      exact J54 S492 hf
                                  · replace hf := m_if0 hf c480
                                    by_cases c505 : v139 = Int32.ofNat 14
                                    · replace hf := m_if1 hf c505
                                      refine r_tsw (N := 0) (t := 977) (v := 14) C dL_law_45 c505 (by decide) (by decide) rfl (by decide) ?_
                                      refine r_aload_n (q := 978) C 1 dL_law_977 rfl rfl ?_
                                      refine r_aload_n (q := 979) C 0 dL_law_978 rfl rfl ?_
                                      refine r_iload (q := 981) C 5 dL_law_979 rfl rfl ?_
                                      refine r_iconst (q := 982) (v := (1 : Int32)) C dL_law_981 (by decide) rfl ?_
                                      refine r_iadd (q := 983) C dL_law_982 rfl ?_
                                      obtain ⟨v506, e507, hf⟩ := m_lt_of hf
                                      refine r_nm e507 ?_
                                      obtain ⟨g508, hf⟩ := m_gd_of hf
                                      refine r_sld (q := 984) C T g508 dL_law_983 rfl ?_
                                      refine r_aload (q := 986) C 4 dL_law_984 rfl rfl ?_
                                      obtain ⟨v510, S509, h511, hf⟩ := m_bw_of hf
                                      refine x_callW (q := 989) (st1 := [.int v510]) C (c_L_mean hl h511) rfl w_657 w_658 w_1 w_659 hd_L_mean rfl rfl rfl ⟨(Nat.le_of_ble_eq_true rfl), (Nat.le_of_ble_eq_true rfl)⟩ (Nat.le_of_ble_eq_true rfl) ⟨(Nat.le_trans (show kk131 + 2 ≤ 400000 by omega) rmC), (Nat.le_trans (show nn132 + 12 ≤ 2400000 by omega) rmS)⟩ dL_law_986 rfl rfl rfl ?_
                                      refine r_istore (q := 991) (L' := [(6, .int v510), (0, .ref b9), (1, .ref a1), (2, .ref a2), (3, .ref a3), (4, .ref a4), (5, .int v129)]) C dL_law_989 rfl (by decide) rfl ?_
                                      refine r_aload_n (q := 992) C 3 dL_law_991 rfl rfl ?_
                                      refine r_aload_n (q := 993) C 1 dL_law_992 rfl rfl ?_
                                      refine r_iload (q := 995) C 6 dL_law_993 rfl rfl ?_
                                      refine r_iconst (q := 996) (v := (1 : Int32)) C dL_law_995 (by decide) rfl ?_
                                      refine r_iadd (q := 997) C dL_law_996 rfl ?_
                                      obtain ⟨v512, e513, hf⟩ := m_lt_of hf
                                      refine r_nm e513 ?_
                                      obtain ⟨g514, hf⟩ := m_gd_of hf
                                      refine r_sld (q := 998) C T g514 dL_law_997 rfl ?_
                                      obtain ⟨g515, hf⟩ := m_gd_of hf
                                      obtain ⟨d518, S517, h516, hf⟩ := m_bw_of hf
                                      refine r_callV (mc := 0) (ms := 0) (q := 1001) (st1 := [.double d518]) C (c_X9_mean hl h516) rfl w_1168 w_1169 w_1170 w_11 w_1171 hd_X9_mean rfl (by decide) g515 rfl rfl rfl ⟨(Nat.le_of_ble_eq_true rfl), (Nat.le_of_ble_eq_true rfl)⟩ (Nat.le_of_ble_eq_true rfl) ⟨(Nat.le_trans (show kk131 + 2 ≤ 400000 by omega) rmC), (Nat.le_trans (show nn132 + 12 ≤ 2400000 by omega) rmS)⟩ dL_law_998 rfl rfl ?_
                                      refine r_dstore (q := 1003) (L' := [(7, .double d518), (6, .int v510), (0, .ref b9), (1, .ref a1), (2, .ref a2), (3, .ref a3), (4, .ref a4), (5, .int v129)]) C dL_law_1001 rfl (by decide) rfl ?_
                                      refine r_aload_n (q := 1004) C 4 dL_law_1003 rfl rfl ?_
                                      obtain ⟨v520, h519, hf⟩ := m_b1_of hf
                                      refine r_callV (mc := 0) (ms := 0) (q := 1007) (st1 := [.int v520]) C (c_X9_thrown hl h519) rfl w_1016 w_1017 w_1018 w_11 w_1019 hd_X9_thrown rfl (by decide) g515 rfl rfl rfl ⟨(Nat.le_of_ble_eq_true rfl), (Nat.le_of_ble_eq_true rfl)⟩ (Nat.le_of_ble_eq_true rfl) ⟨(Nat.le_trans (show kk131 + 2 ≤ 400000 by omega) rmC), (Nat.le_trans (show nn132 + 12 ≤ 2400000 by omega) rmS)⟩ dL_law_1004 rfl rfl ?_
                                      refine r_iload (q := 1009) C 1 dL_law_1007 rfl rfl ?_
                                      refine r_icmp_eq (t := 1014) (q := 1012) C dL_law_1009 (by decide) rfl (fun c521 => ?_) (fun c521 => ?_)
                                      · replace hf := m_if1 hf c521
                                        refine r_iload (q := 1016) C 1 dL_law_1014 rfl rfl ?_
                                        refine r_if_ne (t := 1051) (q := 1019) C dL_law_1016 (by decide) rfl (fun c522 => ?_) (fun c522 => ?_)
                                        · replace hf := m_if1 hf c522
                                          refine r_goto (t := 2259) C dL_law_1051 (by decide) ?_
                                          obtain ⟨v523, e524, hf⟩ := m_lt_of hf
                                          refine r_iinc (q := 2262) (v := v523) (L' := [(5, .int v523), (7, .double d518), (6, .int v510), (0, .ref b9), (1, .ref a1), (2, .ref a2), (3, .ref a3), (4, .ref a4)]) C 7 dL_law_2259 rfl (by rw [e524]; rfl) rfl (by decide) rfl ?_
                                          refine r_goto (t := 28) C dL_law_2262 (by decide) ?_
                                          refine r_sub [3, 4, 5, 6, 7, 0] rfl ?_
                                          exact ih134 v523 S517 (kk131 + 2) (nn132 + 12) (by omega) (by omega) hf
                                        · replace hf := m_if0 hf (fun z => z c522)
                                          refine r_aload (q := 1021) C 6 dL_law_1019 rfl rfl ?_
                                          refine r_iconst (q := 1022) (v := (0 : Int32)) C dL_law_1021 (by decide) rfl ?_
                                          obtain ⟨g525, hf⟩ := m_gd_of hf
                                          obtain ⟨g526, hf⟩ := m_gd_of hf
                                          refine r_dald (q := 1023) C dL_law_1022 ⟨g525, g526⟩ rfl ?_
                                          refine r_dload (q := 1025) C 0 dL_law_1023 rfl rfl ?_
                                          refine r_dcmp (q := 1026) C dL_law_1025 rfl ?_
                                          refine r_if_eq (t := 1051) (q := 1029) C dL_law_1026 (by decide) rfl (fun c527 => ?_) (fun c527 => ?_)
                                          · replace hf := m_if1 hf c527
                                            refine r_goto (t := 2259) C dL_law_1051 (by decide) ?_
                                            obtain ⟨v528, e529, hf⟩ := m_lt_of hf
                                            refine r_iinc (q := 2262) (v := v528) (L' := [(5, .int v528), (7, .double d518), (6, .int v510), (0, .ref b9), (1, .ref a1), (2, .ref a2), (3, .ref a3), (4, .ref a4)]) C 7 dL_law_2259 rfl (by rw [e529]; rfl) rfl (by decide) rfl ?_
                                            refine r_goto (t := 28) C dL_law_2262 (by decide) ?_
                                            refine r_sub [3, 4, 5, 6, 7, 0] rfl ?_
                                            exact ih134 v528 S517 (kk131 + 2) (nn132 + 12) (by omega) (by omega) hf
                                          · replace hf := m_if0 hf c527
                                            refine r_aload (q := 1031) C 6 dL_law_1029 rfl rfl ?_
                                            refine r_iconst (q := 1032) (v := (0 : Int32)) C dL_law_1031 (by decide) rfl ?_
                                            obtain ⟨g530, hf⟩ := m_gd_of hf
                                            refine r_dald (q := 1033) C dL_law_1032 ⟨g525, g530⟩ rfl ?_
                                            refine r_aload (q := 1035) C 6 dL_law_1033 rfl rfl ?_
                                            refine r_iconst (q := 1036) (v := (0 : Int32)) C dL_law_1035 (by decide) rfl ?_
                                            obtain ⟨g531, hf⟩ := m_gd_of hf
                                            refine r_dald (q := 1037) C dL_law_1036 ⟨g525, g531⟩ rfl ?_
                                            refine r_dcmp (q := 1038) C dL_law_1037 rfl ?_
                                            refine r_if_eq (t := 1049) (q := 1041) C dL_law_1038 (by decide) rfl (fun c532 => ?_) (fun c532 => ?_)
                                            · replace hf := m_if1 hf c532
                                              refine r_sub [] rfl ?_
                                              refine r_wid (k' := 381133) (n' := 2300798) (by omega) (by omega) ?_
                                              exact J56 S517 hf
                                            · replace hf := m_if0 hf c532
                                              refine r_dload (q := 1043) C 0 dL_law_1041 rfl rfl ?_
                                              refine r_dload (q := 1045) C 0 dL_law_1043 rfl rfl ?_
                                              refine r_dcmp (q := 1046) C dL_law_1045 rfl ?_
                                              refine r_if_ne (t := 1051) (q := 1049) C dL_law_1046 (by decide) rfl (fun c533 => ?_) (fun c533 => ?_)
                                              · replace hf := m_if1 hf c533
                                                refine r_goto (t := 2259) C dL_law_1051 (by decide) ?_
                                                obtain ⟨v534, e535, hf⟩ := m_lt_of hf
                                                refine r_iinc (q := 2262) (v := v534) (L' := [(5, .int v534), (7, .double d518), (6, .int v510), (0, .ref b9), (1, .ref a1), (2, .ref a2), (3, .ref a3), (4, .ref a4)]) C 7 dL_law_2259 rfl (by rw [e535]; rfl) rfl (by decide) rfl ?_
                                                refine r_goto (t := 28) C dL_law_2262 (by decide) ?_
                                                refine r_sub [3, 4, 5, 6, 7, 0] rfl ?_
                                                exact ih134 v534 S517 (kk131 + 2) (nn132 + 12) (by omega) (by omega) hf
                                              · replace hf := m_if0 hf (fun z => z c533)
                                                refine r_sub [] rfl ?_
                                                refine r_wid (k' := 381133) (n' := 2300798) (by omega) (by omega) ?_
                                                exact J56 S517 hf
                                      · replace hf := m_if0 hf c521
                                        refine r_sub [] rfl ?_
                                        refine r_wid (k' := 381133) (n' := 2300798) (by omega) (by omega) ?_
                                        exact J58 S517 hf
                                    · replace hf := m_if0 hf c505
                                      by_cases c536 : v139 = Int32.ofNat 15
                                      · replace hf := m_if1 hf c536
                                        refine r_tsw (N := 0) (t := 1054) (v := 15) C dL_law_45 c536 (by decide) (by decide) rfl (by decide) ?_
                                        refine r_aload_n (q := 1055) C 1 dL_law_1054 rfl rfl ?_
                                        refine r_aload_n (q := 1056) C 0 dL_law_1055 rfl rfl ?_
                                        refine r_iload (q := 1058) C 5 dL_law_1056 rfl rfl ?_
                                        refine r_iconst (q := 1059) (v := (1 : Int32)) C dL_law_1058 (by decide) rfl ?_
                                        refine r_iadd (q := 1060) C dL_law_1059 rfl ?_
                                        obtain ⟨v537, e538, hf⟩ := m_lt_of hf
                                        refine r_nm e538 ?_
                                        obtain ⟨g539, hf⟩ := m_gd_of hf
                                        refine r_sld (q := 1061) C T g539 dL_law_1060 rfl ?_
                                        refine r_aload (q := 1063) C 4 dL_law_1061 rfl rfl ?_
                                        obtain ⟨v541, S540, h542, hf⟩ := m_bw_of hf
                                        refine x_callW (q := 1066) (st1 := [.int v541]) C (c_L_buffering hl h542) rfl w_664 w_665 w_1 w_666 hd_L_buffering rfl rfl rfl ⟨(Nat.le_of_ble_eq_true rfl), (Nat.le_of_ble_eq_true rfl)⟩ (Nat.le_of_ble_eq_true rfl) ⟨(Nat.le_trans (show kk131 + 2 ≤ 400000 by omega) rmC), (Nat.le_trans (show nn132 + 12 ≤ 2400000 by omega) rmS)⟩ dL_law_1063 rfl rfl rfl ?_
                                        refine r_istore (q := 1068) (L' := [(6, .int v541), (0, .ref b9), (1, .ref a1), (2, .ref a2), (3, .ref a3), (4, .ref a4), (5, .int v129)]) C dL_law_1066 rfl (by decide) rfl ?_
                                        refine r_aload_n (q := 1069) C 3 dL_law_1068 rfl rfl ?_
                                        refine r_aload_n (q := 1070) C 1 dL_law_1069 rfl rfl ?_
                                        refine r_iload (q := 1072) C 6 dL_law_1070 rfl rfl ?_
                                        refine r_iconst (q := 1073) (v := (1 : Int32)) C dL_law_1072 (by decide) rfl ?_
                                        refine r_iadd (q := 1074) C dL_law_1073 rfl ?_
                                        obtain ⟨v543, e544, hf⟩ := m_lt_of hf
                                        refine r_nm e544 ?_
                                        obtain ⟨g545, hf⟩ := m_gd_of hf
                                        refine r_sld (q := 1075) C T g545 dL_law_1074 rfl ?_
                                        obtain ⟨g546, hf⟩ := m_gd_of hf
                                        obtain ⟨d549, S548, h547, hf⟩ := m_bw_of hf
                                        refine r_callV (mc := 0) (ms := 0) (q := 1078) (st1 := [.double d549]) C (c_X9_buffering hl h547) rfl w_1172 w_1173 w_1174 w_11 w_1175 hd_X9_buffering rfl (by decide) g546 rfl rfl rfl ⟨(Nat.le_of_ble_eq_true rfl), (Nat.le_of_ble_eq_true rfl)⟩ (Nat.le_of_ble_eq_true rfl) ⟨(Nat.le_trans (show kk131 + 2 ≤ 400000 by omega) rmC), (Nat.le_trans (show nn132 + 12 ≤ 2400000 by omega) rmS)⟩ dL_law_1075 rfl rfl ?_
                                        refine r_dstore (q := 1080) (L' := [(7, .double d549), (6, .int v541), (0, .ref b9), (1, .ref a1), (2, .ref a2), (3, .ref a3), (4, .ref a4), (5, .int v129)]) C dL_law_1078 rfl (by decide) rfl ?_
                                        refine r_aload_n (q := 1081) C 4 dL_law_1080 rfl rfl ?_
                                        obtain ⟨v551, h550, hf⟩ := m_b1_of hf
                                        refine r_callV (mc := 0) (ms := 0) (q := 1084) (st1 := [.int v551]) C (c_X9_thrown hl h550) rfl w_1016 w_1017 w_1018 w_11 w_1019 hd_X9_thrown rfl (by decide) g546 rfl rfl rfl ⟨(Nat.le_of_ble_eq_true rfl), (Nat.le_of_ble_eq_true rfl)⟩ (Nat.le_of_ble_eq_true rfl) ⟨(Nat.le_trans (show kk131 + 2 ≤ 400000 by omega) rmC), (Nat.le_trans (show nn132 + 12 ≤ 2400000 by omega) rmS)⟩ dL_law_1081 rfl rfl ?_
                                        refine r_iload (q := 1086) C 1 dL_law_1084 rfl rfl ?_
                                        refine r_icmp_eq (t := 1091) (q := 1089) C dL_law_1086 (by decide) rfl (fun c552 => ?_) (fun c552 => ?_)
                                        · replace hf := m_if1 hf c552
                                          refine r_iload (q := 1093) C 1 dL_law_1091 rfl rfl ?_
                                          refine r_if_ne (t := 1128) (q := 1096) C dL_law_1093 (by decide) rfl (fun c553 => ?_) (fun c553 => ?_)
                                          · replace hf := m_if1 hf c553
                                            refine r_goto (t := 2259) C dL_law_1128 (by decide) ?_
                                            obtain ⟨v554, e555, hf⟩ := m_lt_of hf
                                            refine r_iinc (q := 2262) (v := v554) (L' := [(5, .int v554), (7, .double d549), (6, .int v541), (0, .ref b9), (1, .ref a1), (2, .ref a2), (3, .ref a3), (4, .ref a4)]) C 7 dL_law_2259 rfl (by rw [e555]; rfl) rfl (by decide) rfl ?_
                                            refine r_goto (t := 28) C dL_law_2262 (by decide) ?_
                                            refine r_sub [3, 4, 5, 6, 7, 0] rfl ?_
                                            exact ih134 v554 S548 (kk131 + 2) (nn132 + 12) (by omega) (by omega) hf
                                          · replace hf := m_if0 hf (fun z => z c553)
                                            refine r_aload (q := 1098) C 6 dL_law_1096 rfl rfl ?_
                                            refine r_iconst (q := 1099) (v := (0 : Int32)) C dL_law_1098 (by decide) rfl ?_
                                            obtain ⟨g556, hf⟩ := m_gd_of hf
                                            obtain ⟨g557, hf⟩ := m_gd_of hf
                                            refine r_dald (q := 1100) C dL_law_1099 ⟨g556, g557⟩ rfl ?_
                                            refine r_dload (q := 1102) C 0 dL_law_1100 rfl rfl ?_
                                            refine r_dcmp (q := 1103) C dL_law_1102 rfl ?_
                                            refine r_if_eq (t := 1128) (q := 1106) C dL_law_1103 (by decide) rfl (fun c558 => ?_) (fun c558 => ?_)
                                            · replace hf := m_if1 hf c558
                                              refine r_goto (t := 2259) C dL_law_1128 (by decide) ?_
                                              obtain ⟨v559, e560, hf⟩ := m_lt_of hf
                                              refine r_iinc (q := 2262) (v := v559) (L' := [(5, .int v559), (7, .double d549), (6, .int v541), (0, .ref b9), (1, .ref a1), (2, .ref a2), (3, .ref a3), (4, .ref a4)]) C 7 dL_law_2259 rfl (by rw [e560]; rfl) rfl (by decide) rfl ?_
                                              refine r_goto (t := 28) C dL_law_2262 (by decide) ?_
                                              refine r_sub [3, 4, 5, 6, 7, 0] rfl ?_
                                              exact ih134 v559 S548 (kk131 + 2) (nn132 + 12) (by omega) (by omega) hf
                                            · replace hf := m_if0 hf c558
                                              refine r_aload (q := 1108) C 6 dL_law_1106 rfl rfl ?_
                                              refine r_iconst (q := 1109) (v := (0 : Int32)) C dL_law_1108 (by decide) rfl ?_
                                              obtain ⟨g561, hf⟩ := m_gd_of hf
                                              refine r_dald (q := 1110) C dL_law_1109 ⟨g556, g561⟩ rfl ?_
                                              refine r_aload (q := 1112) C 6 dL_law_1110 rfl rfl ?_
                                              refine r_iconst (q := 1113) (v := (0 : Int32)) C dL_law_1112 (by decide) rfl ?_
                                              obtain ⟨g562, hf⟩ := m_gd_of hf
                                              refine r_dald (q := 1114) C dL_law_1113 ⟨g556, g562⟩ rfl ?_
                                              refine r_dcmp (q := 1115) C dL_law_1114 rfl ?_
                                              refine r_if_eq (t := 1126) (q := 1118) C dL_law_1115 (by decide) rfl (fun c563 => ?_) (fun c563 => ?_)
                                              · replace hf := m_if1 hf c563
                                                refine r_sub [] rfl ?_
                                                refine r_wid (k' := 381133) (n' := 2300798) (by omega) (by omega) ?_
                                                exact J60 S548 hf
                                              · replace hf := m_if0 hf c563
                                                refine r_dload (q := 1120) C 0 dL_law_1118 rfl rfl ?_
                                                refine r_dload (q := 1122) C 0 dL_law_1120 rfl rfl ?_
                                                refine r_dcmp (q := 1123) C dL_law_1122 rfl ?_
                                                refine r_if_ne (t := 1128) (q := 1126) C dL_law_1123 (by decide) rfl (fun c564 => ?_) (fun c564 => ?_)
                                                · replace hf := m_if1 hf c564
                                                  refine r_goto (t := 2259) C dL_law_1128 (by decide) ?_
                                                  obtain ⟨v565, e566, hf⟩ := m_lt_of hf
                                                  refine r_iinc (q := 2262) (v := v565) (L' := [(5, .int v565), (7, .double d549), (6, .int v541), (0, .ref b9), (1, .ref a1), (2, .ref a2), (3, .ref a3), (4, .ref a4)]) C 7 dL_law_2259 rfl (by rw [e566]; rfl) rfl (by decide) rfl ?_
                                                  refine r_goto (t := 28) C dL_law_2262 (by decide) ?_
                                                  refine r_sub [3, 4, 5, 6, 7, 0] rfl ?_
                                                  exact ih134 v565 S548 (kk131 + 2) (nn132 + 12) (by omega) (by omega) hf
                                                · replace hf := m_if0 hf (fun z => z c564)
                                                  refine r_sub [] rfl ?_
                                                  refine r_wid (k' := 381133) (n' := 2300798) (by omega) (by omega) ?_
                                                  exact J60 S548 hf
                                        · replace hf := m_if0 hf c552
                                          refine r_sub [] rfl ?_
                                          refine r_wid (k' := 381133) (n' := 2300798) (by omega) (by omega) ?_
                                          exact J62 S548 hf
                                      · replace hf := m_if0 hf c536
                                        by_cases c567 : v139 = Int32.ofNat 16
                                        · replace hf := m_if1 hf c567
                                          refine r_tsw (N := 0) (t := 1131) (v := 16) C dL_law_45 c567 (by decide) (by decide) rfl (by decide) ?_
                                          refine r_aload_n (q := 1132) C 1 dL_law_1131 rfl rfl ?_
                                          refine r_aload_n (q := 1133) C 0 dL_law_1132 rfl rfl ?_
                                          refine r_iload (q := 1135) C 5 dL_law_1133 rfl rfl ?_
                                          refine r_iconst (q := 1136) (v := (1 : Int32)) C dL_law_1135 (by decide) rfl ?_
                                          refine r_iadd (q := 1137) C dL_law_1136 rfl ?_
                                          obtain ⟨v568, e569, hf⟩ := m_lt_of hf
                                          refine r_nm e569 ?_
                                          obtain ⟨g570, hf⟩ := m_gd_of hf
                                          refine r_sld (q := 1138) C T g570 dL_law_1137 rfl ?_
                                          refine r_aload_n (q := 1139) C 0 dL_law_1138 rfl rfl ?_
                                          refine r_iload (q := 1141) C 5 dL_law_1139 rfl rfl ?_
                                          refine r_iconst (q := 1142) (v := (2 : Int32)) C dL_law_1141 (by decide) rfl ?_
                                          refine r_iadd (q := 1143) C dL_law_1142 rfl ?_
                                          obtain ⟨v571, e572, hf⟩ := m_lt_of hf
                                          refine r_nm e572 ?_
                                          obtain ⟨g573, hf⟩ := m_gd_of hf
                                          refine r_sld (q := 1144) C T g573 dL_law_1143 rfl ?_
                                          refine r_aload_n (q := 1145) C 3 dL_law_1144 rfl rfl ?_
                                          obtain ⟨v575, S574, h576, hf⟩ := m_bw_of hf
                                          refine x_callW (q := 1148) (st1 := [.int v575]) C (c_L_setLeak hl h576) rfl w_671 w_672 w_1 w_673 hd_L_setLeak rfl rfl rfl ⟨(Nat.le_of_ble_eq_true rfl), (Nat.le_of_ble_eq_true rfl)⟩ (Nat.le_of_ble_eq_true rfl) ⟨(Nat.le_trans (show kk131 + 2 ≤ 400000 by omega) rmC), (Nat.le_trans (show nn132 + 12 ≤ 2400000 by omega) rmS)⟩ dL_law_1145 rfl rfl rfl ?_
                                          refine r_istore (q := 1150) (L' := [(6, .int v575), (0, .ref b9), (1, .ref a1), (2, .ref a2), (3, .ref a3), (4, .ref a4), (5, .int v129)]) C dL_law_1148 rfl (by decide) rfl ?_
                                          refine r_aload_n (q := 1151) C 3 dL_law_1150 rfl rfl ?_
                                          refine r_aload_n (q := 1152) C 1 dL_law_1151 rfl rfl ?_
                                          refine r_iload (q := 1154) C 6 dL_law_1152 rfl rfl ?_
                                          refine r_iconst (q := 1155) (v := (1 : Int32)) C dL_law_1154 (by decide) rfl ?_
                                          refine r_iadd (q := 1156) C dL_law_1155 rfl ?_
                                          obtain ⟨v577, e578, hf⟩ := m_lt_of hf
                                          refine r_nm e578 ?_
                                          obtain ⟨g579, hf⟩ := m_gd_of hf
                                          refine r_sld (q := 1157) C T g579 dL_law_1156 rfl ?_
                                          refine r_aload_n (q := 1158) C 1 dL_law_1157 rfl rfl ?_
                                          refine r_iload (q := 1160) C 6 dL_law_1158 rfl rfl ?_
                                          refine r_iconst (q := 1161) (v := (2 : Int32)) C dL_law_1160 (by decide) rfl ?_
                                          refine r_iadd (q := 1162) C dL_law_1161 rfl ?_
                                          obtain ⟨v580, e581, hf⟩ := m_lt_of hf
                                          refine r_nm e581 ?_
                                          obtain ⟨g582, hf⟩ := m_gd_of hf
                                          refine r_sld (q := 1163) C T g582 dL_law_1162 rfl ?_
                                          obtain ⟨g583, hf⟩ := m_gd_of hf
                                          obtain ⟨v586, S585, h584, hf⟩ := m_bw_of hf
                                          refine r_callV (mc := 0) (ms := 0) (q := 1166) (st1 := [.int v586]) C (c_X9_setLeak hl h584) rfl w_1176 w_1177 w_1178 w_11 w_1179 hd_X9_setLeak rfl (by decide) g583 rfl rfl rfl ⟨(Nat.le_of_ble_eq_true rfl), (Nat.le_of_ble_eq_true rfl)⟩ (Nat.le_of_ble_eq_true rfl) ⟨(Nat.le_trans (show kk131 + 2 ≤ 400000 by omega) rmC), (Nat.le_trans (show nn132 + 12 ≤ 2400000 by omega) rmS)⟩ dL_law_1163 rfl rfl ?_
                                          refine r_istore (q := 1168) (L' := [(7, .int v586), (6, .int v575), (0, .ref b9), (1, .ref a1), (2, .ref a2), (3, .ref a3), (4, .ref a4), (5, .int v129)]) C dL_law_1166 rfl (by decide) rfl ?_
                                          refine r_aload_n (q := 1169) C 4 dL_law_1168 rfl rfl ?_
                                          obtain ⟨v588, h587, hf⟩ := m_b1_of hf
                                          refine r_callV (mc := 0) (ms := 0) (q := 1172) (st1 := [.int v588]) C (c_X9_thrown hl h587) rfl w_1016 w_1017 w_1018 w_11 w_1019 hd_X9_thrown rfl (by decide) g583 rfl rfl rfl ⟨(Nat.le_of_ble_eq_true rfl), (Nat.le_of_ble_eq_true rfl)⟩ (Nat.le_of_ble_eq_true rfl) ⟨(Nat.le_trans (show kk131 + 2 ≤ 400000 by omega) rmC), (Nat.le_trans (show nn132 + 12 ≤ 2400000 by omega) rmS)⟩ dL_law_1169 rfl rfl ?_
                                          refine r_iload (q := 1174) C 1 dL_law_1172 rfl rfl ?_
                                          refine r_icmp_eq (t := 1179) (q := 1177) C dL_law_1174 (by decide) rfl (fun c589 => ?_) (fun c589 => ?_)
                                          · replace hf := m_if1 hf c589
                                            refine r_iload (q := 1181) C 1 dL_law_1179 rfl rfl ?_
                                            refine r_if_ne (t := 1196) (q := 1184) C dL_law_1181 (by decide) rfl (fun c590 => ?_) (fun c590 => ?_)
                                            · replace hf := m_if1 hf c590
                                              refine r_goto (t := 2259) C dL_law_1196 (by decide) ?_
                                              obtain ⟨v591, e592, hf⟩ := m_lt_of hf
                                              refine r_iinc (q := 2262) (v := v591) (L' := [(5, .int v591), (7, .int v586), (6, .int v575), (0, .ref b9), (1, .ref a1), (2, .ref a2), (3, .ref a3), (4, .ref a4)]) C 7 dL_law_2259 rfl (by rw [e592]; rfl) rfl (by decide) rfl ?_
                                              refine r_goto (t := 28) C dL_law_2262 (by decide) ?_
                                              refine r_sub [3, 4, 5, 6, 7, 0] rfl ?_
                                              exact ih134 v591 S585 (kk131 + 2) (nn132 + 12) (by omega) (by omega) hf
                                            · replace hf := m_if0 hf (fun z => z c590)
                                              refine r_aload_n (q := 1185) C 5 dL_law_1184 rfl rfl ?_
                                              refine r_iconst (q := 1186) (v := (0 : Int32)) C dL_law_1185 (by decide) rfl ?_
                                              obtain ⟨g593, hf⟩ := m_gd_of hf
                                              obtain ⟨g594, hf⟩ := m_gd_of hf
                                              refine r_lald (q := 1187) C dL_law_1186 ⟨g593, g594⟩ rfl ?_
                                              refine r_iload (q := 1189) C 0 dL_law_1187 rfl rfl ?_
                                              refine r_i2l (q := 1190) C dL_law_1189 rfl ?_
                                              refine r_lcmp (q := 1191) C dL_law_1190 rfl ?_
                                              refine r_if_eq (t := 1196) (q := 1194) C dL_law_1191 (by decide) rfl (fun c595 => ?_) (fun c595 => ?_)
                                              · replace hf := m_if1 hf c595
                                                refine r_goto (t := 2259) C dL_law_1196 (by decide) ?_
                                                obtain ⟨v596, e597, hf⟩ := m_lt_of hf
                                                refine r_iinc (q := 2262) (v := v596) (L' := [(5, .int v596), (7, .int v586), (6, .int v575), (0, .ref b9), (1, .ref a1), (2, .ref a2), (3, .ref a3), (4, .ref a4)]) C 7 dL_law_2259 rfl (by rw [e597]; rfl) rfl (by decide) rfl ?_
                                                refine r_goto (t := 28) C dL_law_2262 (by decide) ?_
                                                refine r_sub [3, 4, 5, 6, 7, 0] rfl ?_
                                                exact ih134 v596 S585 (kk131 + 2) (nn132 + 12) (by omega) (by omega) hf
                                              · replace hf := m_if0 hf c595
                                                refine r_sub [] rfl ?_
                                                refine r_wid (k' := 381133) (n' := 2300798) (by omega) (by omega) ?_
                                                exact J64 S585 hf
                                          · replace hf := m_if0 hf c589
                                            refine r_sub [] rfl ?_
                                            refine r_wid (k' := 381133) (n' := 2300798) (by omega) (by omega) ?_
                                            exact J66 S585 hf
                                        · replace hf := m_if0 hf c567
                                          by_cases c598 : v139 = Int32.ofNat 17
                                          · replace hf := m_if1 hf c598
                                            refine r_tsw (N := 0) (t := 1199) (v := 17) C dL_law_45 c598 (by decide) (by decide) rfl (by decide) ?_
                                            refine r_aload_n (q := 1200) C 1 dL_law_1199 rfl rfl ?_
                                            refine r_aload_n (q := 1201) C 0 dL_law_1200 rfl rfl ?_
                                            refine r_iload (q := 1203) C 5 dL_law_1201 rfl rfl ?_
                                            refine r_iconst (q := 1204) (v := (1 : Int32)) C dL_law_1203 (by decide) rfl ?_
                                            refine r_iadd (q := 1205) C dL_law_1204 rfl ?_
                                            obtain ⟨v599, e600, hf⟩ := m_lt_of hf
                                            refine r_nm e600 ?_
                                            obtain ⟨g601, hf⟩ := m_gd_of hf
                                            refine r_sld (q := 1206) C T g601 dL_law_1205 rfl ?_
                                            refine r_aload_n (q := 1207) C 0 dL_law_1206 rfl rfl ?_
                                            refine r_iload (q := 1209) C 5 dL_law_1207 rfl rfl ?_
                                            refine r_iconst (q := 1210) (v := (2 : Int32)) C dL_law_1209 (by decide) rfl ?_
                                            refine r_iadd (q := 1211) C dL_law_1210 rfl ?_
                                            obtain ⟨v602, e603, hf⟩ := m_lt_of hf
                                            refine r_nm e603 ?_
                                            obtain ⟨g604, hf⟩ := m_gd_of hf
                                            refine r_sld (q := 1212) C T g604 dL_law_1211 rfl ?_
                                            refine r_aload_n (q := 1213) C 0 dL_law_1212 rfl rfl ?_
                                            refine r_iload (q := 1215) C 5 dL_law_1213 rfl rfl ?_
                                            refine r_iconst (q := 1216) (v := (3 : Int32)) C dL_law_1215 (by decide) rfl ?_
                                            refine r_iadd (q := 1217) C dL_law_1216 rfl ?_
                                            obtain ⟨v605, e606, hf⟩ := m_lt_of hf
                                            refine r_nm e606 ?_
                                            obtain ⟨g607, hf⟩ := m_gd_of hf
                                            refine r_sld (q := 1218) C T g607 dL_law_1217 rfl ?_
                                            obtain ⟨v609, S608, h610, hf⟩ := m_bw_of hf
                                            refine x_callW (q := 1221) (st1 := [.int v609]) C (c_L_setSafe hl h610) rfl w_678 w_679 w_1 w_680 hd_L_setSafe rfl rfl rfl ⟨(Nat.le_of_ble_eq_true rfl), (Nat.le_of_ble_eq_true rfl)⟩ (Nat.le_of_ble_eq_true rfl) ⟨(Nat.le_trans (show kk131 + 4 ≤ 400000 by omega) rmC), (Nat.le_trans (show nn132 + 24 ≤ 2400000 by omega) rmS)⟩ dL_law_1218 rfl rfl rfl ?_
                                            refine r_istore (q := 1223) (L' := [(6, .int v609), (0, .ref b9), (1, .ref a1), (2, .ref a2), (3, .ref a3), (4, .ref a4), (5, .int v129)]) C dL_law_1221 rfl (by decide) rfl ?_
                                            refine r_aload_n (q := 1224) C 3 dL_law_1223 rfl rfl ?_
                                            refine r_aload_n (q := 1225) C 1 dL_law_1224 rfl rfl ?_
                                            refine r_iload (q := 1227) C 6 dL_law_1225 rfl rfl ?_
                                            refine r_iconst (q := 1228) (v := (1 : Int32)) C dL_law_1227 (by decide) rfl ?_
                                            refine r_iadd (q := 1229) C dL_law_1228 rfl ?_
                                            obtain ⟨v611, e612, hf⟩ := m_lt_of hf
                                            refine r_nm e612 ?_
                                            obtain ⟨g613, hf⟩ := m_gd_of hf
                                            refine r_sld (q := 1230) C T g613 dL_law_1229 rfl ?_
                                            refine r_aload_n (q := 1231) C 1 dL_law_1230 rfl rfl ?_
                                            refine r_iload (q := 1233) C 6 dL_law_1231 rfl rfl ?_
                                            refine r_iconst (q := 1234) (v := (2 : Int32)) C dL_law_1233 (by decide) rfl ?_
                                            refine r_iadd (q := 1235) C dL_law_1234 rfl ?_
                                            obtain ⟨v614, e615, hf⟩ := m_lt_of hf
                                            refine r_nm e615 ?_
                                            obtain ⟨g616, hf⟩ := m_gd_of hf
                                            refine r_sld (q := 1236) C T g616 dL_law_1235 rfl ?_
                                            refine r_aload_n (q := 1237) C 1 dL_law_1236 rfl rfl ?_
                                            refine r_iload (q := 1239) C 6 dL_law_1237 rfl rfl ?_
                                            refine r_iconst (q := 1240) (v := (3 : Int32)) C dL_law_1239 (by decide) rfl ?_
                                            refine r_iadd (q := 1241) C dL_law_1240 rfl ?_
                                            obtain ⟨v617, e618, hf⟩ := m_lt_of hf
                                            refine r_nm e618 ?_
                                            obtain ⟨g619, hf⟩ := m_gd_of hf
                                            refine r_sld (q := 1242) C T g619 dL_law_1241 rfl ?_
                                            obtain ⟨g620, hf⟩ := m_gd_of hf
                                            obtain ⟨_u, S622, h621, hf⟩ := m_bw_of hf
                                            refine r_callV (mc := 0) (ms := 0) (q := 1245) (st1 := []) C (c_X9_setSafe hl h621) rfl w_1180 w_1181 w_1182 w_11 w_1183 hd_X9_setSafe rfl (by decide) g620 rfl rfl rfl ⟨(Nat.le_of_ble_eq_true rfl), (Nat.le_of_ble_eq_true rfl)⟩ (Nat.le_of_ble_eq_true rfl) ⟨(Nat.le_trans (show kk131 + 4 ≤ 400000 by omega) rmC), (Nat.le_trans (show nn132 + 24 ≤ 2400000 by omega) rmS)⟩ dL_law_1242 rfl rfl ?_
                                            refine r_aload_n (q := 1246) C 3 dL_law_1245 rfl rfl ?_
                                            obtain ⟨v624, h623, hf⟩ := m_b1_of hf
                                            refine r_callV (mc := 0) (ms := 0) (q := 1249) (st1 := [.int v624]) C (c_X9_thrown hl h623) rfl w_1016 w_1017 w_1018 w_11 w_1019 hd_X9_thrown rfl (by decide) g620 rfl rfl rfl ⟨(Nat.le_of_ble_eq_true rfl), (Nat.le_of_ble_eq_true rfl)⟩ (Nat.le_of_ble_eq_true rfl) ⟨(Nat.le_trans (show kk131 + 4 ≤ 400000 by omega) rmC), (Nat.le_trans (show nn132 + 24 ≤ 2400000 by omega) rmS)⟩ dL_law_1246 rfl rfl ?_
                                            refine r_iload (q := 1251) C 0 dL_law_1249 rfl rfl ?_
                                            refine r_icmp_eq (t := 1256) (q := 1254) C dL_law_1251 (by decide) rfl (fun c625 => ?_) (fun c625 => ?_)
                                            · replace hf := m_if1 hf c625
                                              refine r_goto (t := 2259) C dL_law_1256 (by decide) ?_
                                              obtain ⟨v626, e627, hf⟩ := m_lt_of hf
                                              refine r_iinc (q := 2262) (v := v626) (L' := [(5, .int v626), (6, .int v609), (0, .ref b9), (1, .ref a1), (2, .ref a2), (3, .ref a3), (4, .ref a4)]) C 6 dL_law_2259 rfl (by rw [e627]; rfl) rfl (by decide) rfl ?_
                                              refine r_goto (t := 28) C dL_law_2262 (by decide) ?_
                                              refine r_sub [2, 3, 4, 5, 6, 0] rfl ?_
                                              exact ih134 v626 S622 (kk131 + 4) (nn132 + 24) (by omega) (by omega) hf
                                            · replace hf := m_if0 hf c625
                                              refine r_sub [] rfl ?_
                                              refine r_wid (k' := 381133) (n' := 2300798) (by omega) (by omega) ?_
                                              exact J68 S622 hf
                                          · replace hf := m_if0 hf c598
                                            by_cases c628 : v139 = Int32.ofNat 18
                                            · replace hf := m_if1 hf c628
                                              refine r_tsw (N := 0) (t := 1259) (v := 18) C dL_law_45 c628 (by decide) (by decide) rfl (by decide) ?_
                                              refine r_aload_n (q := 1260) C 1 dL_law_1259 rfl rfl ?_
                                              refine r_aload_n (q := 1261) C 0 dL_law_1260 rfl rfl ?_
                                              refine r_iload (q := 1263) C 5 dL_law_1261 rfl rfl ?_
                                              refine r_iconst (q := 1264) (v := (1 : Int32)) C dL_law_1263 (by decide) rfl ?_
                                              refine r_iadd (q := 1265) C dL_law_1264 rfl ?_
                                              obtain ⟨v629, e630, hf⟩ := m_lt_of hf
                                              refine r_nm e630 ?_
                                              obtain ⟨g631, hf⟩ := m_gd_of hf
                                              refine r_sld (q := 1266) C T g631 dL_law_1265 rfl ?_
                                              refine r_aload_n (q := 1267) C 3 dL_law_1266 rfl rfl ?_
                                              obtain ⟨v633, S632, h634, hf⟩ := m_bw_of hf
                                              refine x_callW (q := 1270) (st1 := [.int v633]) C (c_L_open hl h634) rfl w_688 w_689 w_1 w_690 hd_L_open rfl rfl rfl ⟨(Nat.le_of_ble_eq_true rfl), (Nat.le_of_ble_eq_true rfl)⟩ (Nat.le_of_ble_eq_true rfl) ⟨(Nat.le_trans (show kk131 + 2 ≤ 400000 by omega) rmC), (Nat.le_trans (show nn132 + 12 ≤ 2400000 by omega) rmS)⟩ dL_law_1267 rfl rfl rfl ?_
                                              refine r_istore (q := 1272) (L' := [(6, .int v633), (0, .ref b9), (1, .ref a1), (2, .ref a2), (3, .ref a3), (4, .ref a4), (5, .int v129)]) C dL_law_1270 rfl (by decide) rfl ?_
                                              refine r_aload_n (q := 1273) C 3 dL_law_1272 rfl rfl ?_
                                              refine r_aload_n (q := 1274) C 1 dL_law_1273 rfl rfl ?_
                                              refine r_iload (q := 1276) C 6 dL_law_1274 rfl rfl ?_
                                              refine r_iconst (q := 1277) (v := (1 : Int32)) C dL_law_1276 (by decide) rfl ?_
                                              refine r_iadd (q := 1278) C dL_law_1277 rfl ?_
                                              obtain ⟨v635, e636, hf⟩ := m_lt_of hf
                                              refine r_nm e636 ?_
                                              obtain ⟨g637, hf⟩ := m_gd_of hf
                                              refine r_sld (q := 1279) C T g637 dL_law_1278 rfl ?_
                                              obtain ⟨g638, hf⟩ := m_gd_of hf
                                              obtain ⟨v641, S640, h639, hf⟩ := m_bw_of hf
                                              refine r_callV (mc := 0) (ms := 0) (q := 1282) (st1 := [.int v641]) C (c_X9_open hl h639) rfl w_1184 w_1185 w_1186 w_11 w_1187 hd_X9_open rfl (by decide) g638 rfl rfl rfl ⟨(Nat.le_of_ble_eq_true rfl), (Nat.le_of_ble_eq_true rfl)⟩ (Nat.le_of_ble_eq_true rfl) ⟨(Nat.le_trans (show kk131 + 2 ≤ 400000 by omega) rmC), (Nat.le_trans (show nn132 + 12 ≤ 2400000 by omega) rmS)⟩ dL_law_1279 rfl rfl ?_
                                              refine r_istore (q := 1284) (L' := [(7, .int v641), (6, .int v633), (0, .ref b9), (1, .ref a1), (2, .ref a2), (3, .ref a3), (4, .ref a4), (5, .int v129)]) C dL_law_1282 rfl (by decide) rfl ?_
                                              refine r_aload_n (q := 1285) C 4 dL_law_1284 rfl rfl ?_
                                              obtain ⟨v643, h642, hf⟩ := m_b1_of hf
                                              refine r_callV (mc := 0) (ms := 0) (q := 1288) (st1 := [.int v643]) C (c_X9_thrown hl h642) rfl w_1016 w_1017 w_1018 w_11 w_1019 hd_X9_thrown rfl (by decide) g638 rfl rfl rfl ⟨(Nat.le_of_ble_eq_true rfl), (Nat.le_of_ble_eq_true rfl)⟩ (Nat.le_of_ble_eq_true rfl) ⟨(Nat.le_trans (show kk131 + 2 ≤ 400000 by omega) rmC), (Nat.le_trans (show nn132 + 12 ≤ 2400000 by omega) rmS)⟩ dL_law_1285 rfl rfl ?_
                                              refine r_iload (q := 1290) C 1 dL_law_1288 rfl rfl ?_
                                              refine r_icmp_eq (t := 1295) (q := 1293) C dL_law_1290 (by decide) rfl (fun c644 => ?_) (fun c644 => ?_)
                                              · replace hf := m_if1 hf c644
                                                refine r_iload (q := 1297) C 1 dL_law_1295 rfl rfl ?_
                                                refine r_if_ne (t := 1312) (q := 1300) C dL_law_1297 (by decide) rfl (fun c645 => ?_) (fun c645 => ?_)
                                                · replace hf := m_if1 hf c645
                                                  refine r_goto (t := 2259) C dL_law_1312 (by decide) ?_
                                                  obtain ⟨v646, e647, hf⟩ := m_lt_of hf
                                                  refine r_iinc (q := 2262) (v := v646) (L' := [(5, .int v646), (7, .int v641), (6, .int v633), (0, .ref b9), (1, .ref a1), (2, .ref a2), (3, .ref a3), (4, .ref a4)]) C 7 dL_law_2259 rfl (by rw [e647]; rfl) rfl (by decide) rfl ?_
                                                  refine r_goto (t := 28) C dL_law_2262 (by decide) ?_
                                                  refine r_sub [3, 4, 5, 6, 7, 0] rfl ?_
                                                  exact ih134 v646 S640 (kk131 + 2) (nn132 + 12) (by omega) (by omega) hf
                                                · replace hf := m_if0 hf (fun z => z c645)
                                                  refine r_aload_n (q := 1301) C 5 dL_law_1300 rfl rfl ?_
                                                  refine r_iconst (q := 1302) (v := (0 : Int32)) C dL_law_1301 (by decide) rfl ?_
                                                  obtain ⟨g648, hf⟩ := m_gd_of hf
                                                  obtain ⟨g649, hf⟩ := m_gd_of hf
                                                  refine r_lald (q := 1303) C dL_law_1302 ⟨g648, g649⟩ rfl ?_
                                                  refine r_iload (q := 1305) C 0 dL_law_1303 rfl rfl ?_
                                                  refine r_i2l (q := 1306) C dL_law_1305 rfl ?_
                                                  refine r_lcmp (q := 1307) C dL_law_1306 rfl ?_
                                                  refine r_if_eq (t := 1312) (q := 1310) C dL_law_1307 (by decide) rfl (fun c650 => ?_) (fun c650 => ?_)
                                                  · replace hf := m_if1 hf c650
                                                    refine r_goto (t := 2259) C dL_law_1312 (by decide) ?_
                                                    obtain ⟨v651, e652, hf⟩ := m_lt_of hf
                                                    refine r_iinc (q := 2262) (v := v651) (L' := [(5, .int v651), (7, .int v641), (6, .int v633), (0, .ref b9), (1, .ref a1), (2, .ref a2), (3, .ref a3), (4, .ref a4)]) C 7 dL_law_2259 rfl (by rw [e652]; rfl) rfl (by decide) rfl ?_
                                                    refine r_goto (t := 28) C dL_law_2262 (by decide) ?_
                                                    refine r_sub [3, 4, 5, 6, 7, 0] rfl ?_
                                                    exact ih134 v651 S640 (kk131 + 2) (nn132 + 12) (by omega) (by omega) hf
                                                  · replace hf := m_if0 hf c650
                                                    refine r_sub [] rfl ?_
                                                    refine r_wid (k' := 381133) (n' := 2300798) (by omega) (by omega) ?_
                                                    exact J70 S640 hf
                                              · replace hf := m_if0 hf c644
                                                refine r_sub [] rfl ?_
                                                refine r_wid (k' := 381133) (n' := 2300798) (by omega) (by omega) ?_
                                                exact J72 S640 hf
                                            · replace hf := m_if0 hf c628
                                              by_cases c653 : v139 = Int32.ofNat 19
                                              · replace hf := m_if1 hf c653
                                                refine r_tsw (N := 0) (t := 1315) (v := 19) C dL_law_45 c653 (by decide) (by decide) rfl (by decide) ?_
                                                refine r_aload_n (q := 1316) C 1 dL_law_1315 rfl rfl ?_
                                                refine r_aload_n (q := 1317) C 0 dL_law_1316 rfl rfl ?_
                                                refine r_iload (q := 1319) C 5 dL_law_1317 rfl rfl ?_
                                                refine r_iconst (q := 1320) (v := (1 : Int32)) C dL_law_1319 (by decide) rfl ?_
                                                refine r_iadd (q := 1321) C dL_law_1320 rfl ?_
                                                obtain ⟨v654, e655, hf⟩ := m_lt_of hf
                                                refine r_nm e655 ?_
                                                obtain ⟨g656, hf⟩ := m_gd_of hf
                                                refine r_sld (q := 1322) C T g656 dL_law_1321 rfl ?_
                                                refine r_aload_n (q := 1323) C 0 dL_law_1322 rfl rfl ?_
                                                refine r_iload (q := 1325) C 5 dL_law_1323 rfl rfl ?_
                                                refine r_iconst (q := 1326) (v := (2 : Int32)) C dL_law_1325 (by decide) rfl ?_
                                                refine r_iadd (q := 1327) C dL_law_1326 rfl ?_
                                                obtain ⟨v657, e658, hf⟩ := m_lt_of hf
                                                refine r_nm e658 ?_
                                                obtain ⟨g659, hf⟩ := m_gd_of hf
                                                refine r_sld (q := 1328) C T g659 dL_law_1327 rfl ?_
                                                refine r_aload_n (q := 1329) C 0 dL_law_1328 rfl rfl ?_
                                                refine r_iload (q := 1331) C 5 dL_law_1329 rfl rfl ?_
                                                refine r_iconst (q := 1332) (v := (3 : Int32)) C dL_law_1331 (by decide) rfl ?_
                                                refine r_iadd (q := 1333) C dL_law_1332 rfl ?_
                                                obtain ⟨v660, e661, hf⟩ := m_lt_of hf
                                                refine r_nm e661 ?_
                                                obtain ⟨g662, hf⟩ := m_gd_of hf
                                                refine r_sld (q := 1334) C T g662 dL_law_1333 rfl ?_
                                                refine r_aload_n (q := 1335) C 3 dL_law_1334 rfl rfl ?_
                                                obtain ⟨v664, S663, h665, hf⟩ := m_bw_of hf
                                                refine x_callW (q := 1338) (st1 := [.int v664]) C (c_L_cassette hl h665) rfl w_696 w_697 w_1 w_698 hd_L_cassette rfl rfl rfl ⟨(Nat.le_of_ble_eq_true rfl), (Nat.le_of_ble_eq_true rfl)⟩ (Nat.le_of_ble_eq_true rfl) ⟨(Nat.le_trans (show kk131 + 2 ≤ 400000 by omega) rmC), (Nat.le_trans (show nn132 + 12 ≤ 2400000 by omega) rmS)⟩ dL_law_1335 rfl rfl rfl ?_
                                                refine r_istore (q := 1340) (L' := [(6, .int v664), (0, .ref b9), (1, .ref a1), (2, .ref a2), (3, .ref a3), (4, .ref a4), (5, .int v129)]) C dL_law_1338 rfl (by decide) rfl ?_
                                                refine r_aload_n (q := 1341) C 3 dL_law_1340 rfl rfl ?_
                                                refine r_aload_n (q := 1342) C 1 dL_law_1341 rfl rfl ?_
                                                refine r_iload (q := 1344) C 6 dL_law_1342 rfl rfl ?_
                                                refine r_iconst (q := 1345) (v := (1 : Int32)) C dL_law_1344 (by decide) rfl ?_
                                                refine r_iadd (q := 1346) C dL_law_1345 rfl ?_
                                                obtain ⟨v666, e667, hf⟩ := m_lt_of hf
                                                refine r_nm e667 ?_
                                                obtain ⟨g668, hf⟩ := m_gd_of hf
                                                refine r_sld (q := 1347) C T g668 dL_law_1346 rfl ?_
                                                refine r_aload_n (q := 1348) C 1 dL_law_1347 rfl rfl ?_
                                                refine r_iload (q := 1350) C 6 dL_law_1348 rfl rfl ?_
                                                refine r_iconst (q := 1351) (v := (2 : Int32)) C dL_law_1350 (by decide) rfl ?_
                                                refine r_iadd (q := 1352) C dL_law_1351 rfl ?_
                                                obtain ⟨v669, e670, hf⟩ := m_lt_of hf
                                                refine r_nm e670 ?_
                                                obtain ⟨g671, hf⟩ := m_gd_of hf
                                                refine r_sld (q := 1353) C T g671 dL_law_1352 rfl ?_
                                                refine r_aload_n (q := 1354) C 1 dL_law_1353 rfl rfl ?_
                                                refine r_iload (q := 1356) C 6 dL_law_1354 rfl rfl ?_
                                                refine r_iconst (q := 1357) (v := (3 : Int32)) C dL_law_1356 (by decide) rfl ?_
                                                refine r_iadd (q := 1358) C dL_law_1357 rfl ?_
                                                obtain ⟨v672, e673, hf⟩ := m_lt_of hf
                                                refine r_nm e673 ?_
                                                obtain ⟨g674, hf⟩ := m_gd_of hf
                                                refine r_sld (q := 1359) C T g674 dL_law_1358 rfl ?_
                                                obtain ⟨g675, hf⟩ := m_gd_of hf
                                                obtain ⟨v678, S677, h676, hf⟩ := m_bw_of hf
                                                refine r_callV (mc := 0) (ms := 0) (q := 1362) (st1 := [.int v678]) C (c_X9_cassette hl h676) rfl w_1191 w_1192 w_1193 w_11 w_1194 hd_X9_cassette rfl (by decide) g675 rfl rfl rfl ⟨(Nat.le_of_ble_eq_true rfl), (Nat.le_of_ble_eq_true rfl)⟩ (Nat.le_of_ble_eq_true rfl) ⟨(Nat.le_trans (show kk131 + 2 ≤ 400000 by omega) rmC), (Nat.le_trans (show nn132 + 12 ≤ 2400000 by omega) rmS)⟩ dL_law_1359 rfl rfl ?_
                                                refine r_istore (q := 1364) (L' := [(7, .int v678), (6, .int v664), (0, .ref b9), (1, .ref a1), (2, .ref a2), (3, .ref a3), (4, .ref a4), (5, .int v129)]) C dL_law_1362 rfl (by decide) rfl ?_
                                                refine r_aload_n (q := 1365) C 4 dL_law_1364 rfl rfl ?_
                                                obtain ⟨v680, h679, hf⟩ := m_b1_of hf
                                                refine r_callV (mc := 0) (ms := 0) (q := 1368) (st1 := [.int v680]) C (c_X9_thrown hl h679) rfl w_1016 w_1017 w_1018 w_11 w_1019 hd_X9_thrown rfl (by decide) g675 rfl rfl rfl ⟨(Nat.le_of_ble_eq_true rfl), (Nat.le_of_ble_eq_true rfl)⟩ (Nat.le_of_ble_eq_true rfl) ⟨(Nat.le_trans (show kk131 + 2 ≤ 400000 by omega) rmC), (Nat.le_trans (show nn132 + 12 ≤ 2400000 by omega) rmS)⟩ dL_law_1365 rfl rfl ?_
                                                refine r_iload (q := 1370) C 1 dL_law_1368 rfl rfl ?_
                                                refine r_icmp_eq (t := 1375) (q := 1373) C dL_law_1370 (by decide) rfl (fun c681 => ?_) (fun c681 => ?_)
                                                · replace hf := m_if1 hf c681
                                                  refine r_iload (q := 1377) C 1 dL_law_1375 rfl rfl ?_
                                                  refine r_if_ne (t := 1392) (q := 1380) C dL_law_1377 (by decide) rfl (fun c682 => ?_) (fun c682 => ?_)
                                                  · replace hf := m_if1 hf c682
                                                    refine r_goto (t := 2259) C dL_law_1392 (by decide) ?_
                                                    obtain ⟨v683, e684, hf⟩ := m_lt_of hf
                                                    refine r_iinc (q := 2262) (v := v683) (L' := [(5, .int v683), (7, .int v678), (6, .int v664), (0, .ref b9), (1, .ref a1), (2, .ref a2), (3, .ref a3), (4, .ref a4)]) C 7 dL_law_2259 rfl (by rw [e684]; rfl) rfl (by decide) rfl ?_
                                                    refine r_goto (t := 28) C dL_law_2262 (by decide) ?_
                                                    refine r_sub [3, 4, 5, 6, 7, 0] rfl ?_
                                                    exact ih134 v683 S677 (kk131 + 2) (nn132 + 12) (by omega) (by omega) hf
                                                  · replace hf := m_if0 hf (fun z => z c682)
                                                    refine r_aload_n (q := 1381) C 5 dL_law_1380 rfl rfl ?_
                                                    refine r_iconst (q := 1382) (v := (0 : Int32)) C dL_law_1381 (by decide) rfl ?_
                                                    obtain ⟨g685, hf⟩ := m_gd_of hf
                                                    obtain ⟨g686, hf⟩ := m_gd_of hf
                                                    refine r_lald (q := 1383) C dL_law_1382 ⟨g685, g686⟩ rfl ?_
                                                    refine r_iload (q := 1385) C 0 dL_law_1383 rfl rfl ?_
                                                    refine r_i2l (q := 1386) C dL_law_1385 rfl ?_
                                                    refine r_lcmp (q := 1387) C dL_law_1386 rfl ?_
                                                    refine r_if_eq (t := 1392) (q := 1390) C dL_law_1387 (by decide) rfl (fun c687 => ?_) (fun c687 => ?_)
                                                    · replace hf := m_if1 hf c687
                                                      refine r_goto (t := 2259) C dL_law_1392 (by decide) ?_
                                                      obtain ⟨v688, e689, hf⟩ := m_lt_of hf
                                                      refine r_iinc (q := 2262) (v := v688) (L' := [(5, .int v688), (7, .int v678), (6, .int v664), (0, .ref b9), (1, .ref a1), (2, .ref a2), (3, .ref a3), (4, .ref a4)]) C 7 dL_law_2259 rfl (by rw [e689]; rfl) rfl (by decide) rfl ?_
                                                      refine r_goto (t := 28) C dL_law_2262 (by decide) ?_
                                                      refine r_sub [3, 4, 5, 6, 7, 0] rfl ?_
                                                      exact ih134 v688 S677 (kk131 + 2) (nn132 + 12) (by omega) (by omega) hf
                                                    · replace hf := m_if0 hf c687
                                                      refine r_sub [] rfl ?_
                                                      refine r_wid (k' := 381133) (n' := 2300798) (by omega) (by omega) ?_
                                                      exact J74 S677 hf
                                                · replace hf := m_if0 hf c681
                                                  refine r_sub [] rfl ?_
                                                  refine r_wid (k' := 381133) (n' := 2300798) (by omega) (by omega) ?_
                                                  exact J76 S677 hf
                                              · replace hf := m_if0 hf c653
                                                by_cases c690 : v139 = Int32.ofNat 20
                                                · replace hf := m_if1 hf c690
                                                  refine r_tsw (N := 0) (t := 1395) (v := 20) C dL_law_45 c690 (by decide) (by decide) rfl (by decide) ?_
                                                  refine r_aload_n (q := 1396) C 1 dL_law_1395 rfl rfl ?_
                                                  refine r_aload_n (q := 1397) C 0 dL_law_1396 rfl rfl ?_
                                                  refine r_iload (q := 1399) C 5 dL_law_1397 rfl rfl ?_
                                                  refine r_iconst (q := 1400) (v := (1 : Int32)) C dL_law_1399 (by decide) rfl ?_
                                                  refine r_iadd (q := 1401) C dL_law_1400 rfl ?_
                                                  obtain ⟨v691, e692, hf⟩ := m_lt_of hf
                                                  refine r_nm e692 ?_
                                                  obtain ⟨g693, hf⟩ := m_gd_of hf
                                                  refine r_sld (q := 1402) C T g693 dL_law_1401 rfl ?_
                                                  refine r_aload_n (q := 1403) C 3 dL_law_1402 rfl rfl ?_
                                                  obtain ⟨v695, S694, h696, hf⟩ := m_bw_of hf
                                                  refine x_callW (q := 1406) (st1 := [.int v695]) C (c_L_caseOf hl h696) rfl w_716 w_717 w_1 w_718 hd_L_caseOf rfl rfl rfl ⟨(Nat.le_of_ble_eq_true rfl), (Nat.le_of_ble_eq_true rfl)⟩ (Nat.le_of_ble_eq_true rfl) ⟨(Nat.le_trans (show kk131 + 1 ≤ 400000 by omega) rmC), (Nat.le_trans (show nn132 + 6 ≤ 2400000 by omega) rmS)⟩ dL_law_1403 rfl rfl rfl ?_
                                                  refine r_istore (q := 1408) (L' := [(6, .int v695), (0, .ref b9), (1, .ref a1), (2, .ref a2), (3, .ref a3), (4, .ref a4), (5, .int v129)]) C dL_law_1406 rfl (by decide) rfl ?_
                                                  refine r_aload_n (q := 1409) C 3 dL_law_1408 rfl rfl ?_
                                                  refine r_aload_n (q := 1410) C 1 dL_law_1409 rfl rfl ?_
                                                  refine r_iload (q := 1412) C 6 dL_law_1410 rfl rfl ?_
                                                  refine r_iconst (q := 1413) (v := (1 : Int32)) C dL_law_1412 (by decide) rfl ?_
                                                  refine r_iadd (q := 1414) C dL_law_1413 rfl ?_
                                                  obtain ⟨v697, e698, hf⟩ := m_lt_of hf
                                                  refine r_nm e698 ?_
                                                  obtain ⟨g699, hf⟩ := m_gd_of hf
                                                  refine r_sld (q := 1415) C T g699 dL_law_1414 rfl ?_
                                                  obtain ⟨g700, hf⟩ := m_gd_of hf
                                                  obtain ⟨v703, S702, h701, hf⟩ := m_bw_of hf
                                                  refine r_callV (mc := 0) (ms := 0) (q := 1418) (st1 := [.int v703]) C (c_X9_caseOf hl h701) rfl w_1198 w_1199 w_1200 w_11 w_1201 hd_X9_caseOf rfl (by decide) g700 rfl rfl rfl ⟨(Nat.le_of_ble_eq_true rfl), (Nat.le_of_ble_eq_true rfl)⟩ (Nat.le_of_ble_eq_true rfl) ⟨(Nat.le_trans (show kk131 + 1 ≤ 400000 by omega) rmC), (Nat.le_trans (show nn132 + 6 ≤ 2400000 by omega) rmS)⟩ dL_law_1415 rfl rfl ?_
                                                  refine r_istore (q := 1420) (L' := [(7, .int v703), (6, .int v695), (0, .ref b9), (1, .ref a1), (2, .ref a2), (3, .ref a3), (4, .ref a4), (5, .int v129)]) C dL_law_1418 rfl (by decide) rfl ?_
                                                  refine r_aload_n (q := 1421) C 4 dL_law_1420 rfl rfl ?_
                                                  obtain ⟨v705, h704, hf⟩ := m_b1_of hf
                                                  refine r_callV (mc := 0) (ms := 0) (q := 1424) (st1 := [.int v705]) C (c_X9_thrown hl h704) rfl w_1016 w_1017 w_1018 w_11 w_1019 hd_X9_thrown rfl (by decide) g700 rfl rfl rfl ⟨(Nat.le_of_ble_eq_true rfl), (Nat.le_of_ble_eq_true rfl)⟩ (Nat.le_of_ble_eq_true rfl) ⟨(Nat.le_trans (show kk131 + 1 ≤ 400000 by omega) rmC), (Nat.le_trans (show nn132 + 6 ≤ 2400000 by omega) rmS)⟩ dL_law_1421 rfl rfl ?_
                                                  refine r_iload (q := 1426) C 1 dL_law_1424 rfl rfl ?_
                                                  refine r_icmp_eq (t := 1431) (q := 1429) C dL_law_1426 (by decide) rfl (fun c706 => ?_) (fun c706 => ?_)
                                                  · replace hf := m_if1 hf c706
                                                    refine r_iload (q := 1433) C 1 dL_law_1431 rfl rfl ?_
                                                    refine r_if_ne (t := 1448) (q := 1436) C dL_law_1433 (by decide) rfl (fun c707 => ?_) (fun c707 => ?_)
                                                    · replace hf := m_if1 hf c707
                                                      refine r_goto (t := 2259) C dL_law_1448 (by decide) ?_
                                                      obtain ⟨v708, e709, hf⟩ := m_lt_of hf
                                                      refine r_iinc (q := 2262) (v := v708) (L' := [(5, .int v708), (7, .int v703), (6, .int v695), (0, .ref b9), (1, .ref a1), (2, .ref a2), (3, .ref a3), (4, .ref a4)]) C 7 dL_law_2259 rfl (by rw [e709]; rfl) rfl (by decide) rfl ?_
                                                      refine r_goto (t := 28) C dL_law_2262 (by decide) ?_
                                                      refine r_sub [3, 4, 5, 6, 7, 0] rfl ?_
                                                      exact ih134 v708 S702 (kk131 + 1) (nn132 + 6) (by omega) (by omega) hf
                                                    · replace hf := m_if0 hf (fun z => z c707)
                                                      refine r_aload_n (q := 1437) C 5 dL_law_1436 rfl rfl ?_
                                                      refine r_iconst (q := 1438) (v := (0 : Int32)) C dL_law_1437 (by decide) rfl ?_
                                                      obtain ⟨g710, hf⟩ := m_gd_of hf
                                                      obtain ⟨g711, hf⟩ := m_gd_of hf
                                                      refine r_lald (q := 1439) C dL_law_1438 ⟨g710, g711⟩ rfl ?_
                                                      refine r_iload (q := 1441) C 0 dL_law_1439 rfl rfl ?_
                                                      refine r_i2l (q := 1442) C dL_law_1441 rfl ?_
                                                      refine r_lcmp (q := 1443) C dL_law_1442 rfl ?_
                                                      refine r_if_eq (t := 1448) (q := 1446) C dL_law_1443 (by decide) rfl (fun c712 => ?_) (fun c712 => ?_)
                                                      · replace hf := m_if1 hf c712
                                                        refine r_goto (t := 2259) C dL_law_1448 (by decide) ?_
                                                        obtain ⟨v713, e714, hf⟩ := m_lt_of hf
                                                        refine r_iinc (q := 2262) (v := v713) (L' := [(5, .int v713), (7, .int v703), (6, .int v695), (0, .ref b9), (1, .ref a1), (2, .ref a2), (3, .ref a3), (4, .ref a4)]) C 7 dL_law_2259 rfl (by rw [e714]; rfl) rfl (by decide) rfl ?_
                                                        refine r_goto (t := 28) C dL_law_2262 (by decide) ?_
                                                        refine r_sub [3, 4, 5, 6, 7, 0] rfl ?_
                                                        exact ih134 v713 S702 (kk131 + 1) (nn132 + 6) (by omega) (by omega) hf
                                                      · replace hf := m_if0 hf c712
                                                        refine r_sub [] rfl ?_
                                                        refine r_wid (k' := 381133) (n' := 2300798) (by omega) (by omega) ?_
                                                        exact J78 S702 hf
                                                  · replace hf := m_if0 hf c706
                                                    refine r_sub [] rfl ?_
                                                    refine r_wid (k' := 381133) (n' := 2300798) (by omega) (by omega) ?_
                                                    exact J80 S702 hf
                                                · replace hf := m_if0 hf c690
                                                  by_cases c715 : v139 = Int32.ofNat 21
                                                  · replace hf := m_if1 hf c715
                                                    refine r_tsw (N := 0) (t := 1451) (v := 21) C dL_law_45 c715 (by decide) (by decide) rfl (by decide) ?_
                                                    refine r_aload_n (q := 1452) C 1 dL_law_1451 rfl rfl ?_
                                                    refine r_aload_n (q := 1453) C 0 dL_law_1452 rfl rfl ?_
                                                    refine r_iload (q := 1455) C 5 dL_law_1453 rfl rfl ?_
                                                    refine r_iconst (q := 1456) (v := (1 : Int32)) C dL_law_1455 (by decide) rfl ?_
                                                    refine r_iadd (q := 1457) C dL_law_1456 rfl ?_
                                                    obtain ⟨v716, e717, hf⟩ := m_lt_of hf
                                                    refine r_nm e717 ?_
                                                    obtain ⟨g718, hf⟩ := m_gd_of hf
                                                    refine r_sld (q := 1458) C T g718 dL_law_1457 rfl ?_
                                                    refine r_aload_n (q := 1459) C 0 dL_law_1458 rfl rfl ?_
                                                    refine r_iload (q := 1461) C 5 dL_law_1459 rfl rfl ?_
                                                    refine r_iconst (q := 1462) (v := (2 : Int32)) C dL_law_1461 (by decide) rfl ?_
                                                    refine r_iadd (q := 1463) C dL_law_1462 rfl ?_
                                                    obtain ⟨v719, e720, hf⟩ := m_lt_of hf
                                                    refine r_nm e720 ?_
                                                    obtain ⟨g721, hf⟩ := m_gd_of hf
                                                    refine r_sld (q := 1464) C T g721 dL_law_1463 rfl ?_
                                                    refine r_aload_n (q := 1465) C 0 dL_law_1464 rfl rfl ?_
                                                    refine r_iload (q := 1467) C 5 dL_law_1465 rfl rfl ?_
                                                    refine r_iconst (q := 1468) (v := (3 : Int32)) C dL_law_1467 (by decide) rfl ?_
                                                    refine r_iadd (q := 1469) C dL_law_1468 rfl ?_
                                                    obtain ⟨v722, e723, hf⟩ := m_lt_of hf
                                                    refine r_nm e723 ?_
                                                    obtain ⟨g724, hf⟩ := m_gd_of hf
                                                    refine r_sld (q := 1470) C T g724 dL_law_1469 rfl ?_
                                                    refine r_aload_n (q := 1471) C 0 dL_law_1470 rfl rfl ?_
                                                    refine r_iload (q := 1473) C 5 dL_law_1471 rfl rfl ?_
                                                    refine r_iconst (q := 1474) (v := (4 : Int32)) C dL_law_1473 (by decide) rfl ?_
                                                    refine r_iadd (q := 1475) C dL_law_1474 rfl ?_
                                                    obtain ⟨v725, e726, hf⟩ := m_lt_of hf
                                                    refine r_nm e726 ?_
                                                    obtain ⟨g727, hf⟩ := m_gd_of hf
                                                    refine r_sld (q := 1476) C T g727 dL_law_1475 rfl ?_
                                                    refine r_aload_n (q := 1477) C 3 dL_law_1476 rfl rfl ?_
                                                    obtain ⟨v729, S728, h730, hf⟩ := m_bw_of hf
                                                    refine x_callW (q := 1480) (st1 := [.int v729]) C (c_L_add hl h730) rfl w_731 w_732 w_1 w_733 hd_L_add rfl rfl rfl ⟨(Nat.le_of_ble_eq_true rfl), (Nat.le_of_ble_eq_true rfl)⟩ (Nat.le_of_ble_eq_true rfl) ⟨(Nat.le_trans (show kk131 + 4 ≤ 400000 by omega) rmC), (Nat.le_trans (show nn132 + 24 ≤ 2400000 by omega) rmS)⟩ dL_law_1477 rfl rfl rfl ?_
                                                    refine r_istore (q := 1482) (L' := [(6, .int v729), (0, .ref b9), (1, .ref a1), (2, .ref a2), (3, .ref a3), (4, .ref a4), (5, .int v129)]) C dL_law_1480 rfl (by decide) rfl ?_
                                                    refine r_aload_n (q := 1483) C 3 dL_law_1482 rfl rfl ?_
                                                    refine r_aload_n (q := 1484) C 1 dL_law_1483 rfl rfl ?_
                                                    refine r_iload (q := 1486) C 6 dL_law_1484 rfl rfl ?_
                                                    refine r_iconst (q := 1487) (v := (1 : Int32)) C dL_law_1486 (by decide) rfl ?_
                                                    refine r_iadd (q := 1488) C dL_law_1487 rfl ?_
                                                    obtain ⟨v731, e732, hf⟩ := m_lt_of hf
                                                    refine r_nm e732 ?_
                                                    obtain ⟨g733, hf⟩ := m_gd_of hf
                                                    refine r_sld (q := 1489) C T g733 dL_law_1488 rfl ?_
                                                    refine r_aload_n (q := 1490) C 1 dL_law_1489 rfl rfl ?_
                                                    refine r_iload (q := 1492) C 6 dL_law_1490 rfl rfl ?_
                                                    refine r_iconst (q := 1493) (v := (2 : Int32)) C dL_law_1492 (by decide) rfl ?_
                                                    refine r_iadd (q := 1494) C dL_law_1493 rfl ?_
                                                    obtain ⟨v734, e735, hf⟩ := m_lt_of hf
                                                    refine r_nm e735 ?_
                                                    obtain ⟨g736, hf⟩ := m_gd_of hf
                                                    refine r_sld (q := 1495) C T g736 dL_law_1494 rfl ?_
                                                    refine r_aload_n (q := 1496) C 1 dL_law_1495 rfl rfl ?_
                                                    refine r_iload (q := 1498) C 6 dL_law_1496 rfl rfl ?_
                                                    refine r_iconst (q := 1499) (v := (3 : Int32)) C dL_law_1498 (by decide) rfl ?_
                                                    refine r_iadd (q := 1500) C dL_law_1499 rfl ?_
                                                    obtain ⟨v737, e738, hf⟩ := m_lt_of hf
                                                    refine r_nm e738 ?_
                                                    obtain ⟨g739, hf⟩ := m_gd_of hf
                                                    refine r_sld (q := 1501) C T g739 dL_law_1500 rfl ?_
                                                    refine r_aload_n (q := 1502) C 1 dL_law_1501 rfl rfl ?_
                                                    refine r_iload (q := 1504) C 6 dL_law_1502 rfl rfl ?_
                                                    refine r_iconst (q := 1505) (v := (4 : Int32)) C dL_law_1504 (by decide) rfl ?_
                                                    refine r_iadd (q := 1506) C dL_law_1505 rfl ?_
                                                    obtain ⟨v740, e741, hf⟩ := m_lt_of hf
                                                    refine r_nm e741 ?_
                                                    obtain ⟨g742, hf⟩ := m_gd_of hf
                                                    refine r_sld (q := 1507) C T g742 dL_law_1506 rfl ?_
                                                    obtain ⟨g743, hf⟩ := m_gd_of hf
                                                    obtain ⟨v746, S745, h744, hf⟩ := m_bw_of hf
                                                    refine r_callV (mc := 0) (ms := 0) (q := 1510) (st1 := [.int v746]) C (c_X9_add hl h744) rfl w_1205 w_1206 w_1207 w_11 w_1208 hd_X9_add rfl (by decide) g743 rfl rfl rfl ⟨(Nat.le_of_ble_eq_true rfl), (Nat.le_of_ble_eq_true rfl)⟩ (Nat.le_of_ble_eq_true rfl) ⟨(Nat.le_trans (show kk131 + 4 ≤ 400000 by omega) rmC), (Nat.le_trans (show nn132 + 24 ≤ 2400000 by omega) rmS)⟩ dL_law_1507 rfl rfl ?_
                                                    refine r_istore (q := 1512) (L' := [(7, .int v746), (6, .int v729), (0, .ref b9), (1, .ref a1), (2, .ref a2), (3, .ref a3), (4, .ref a4), (5, .int v129)]) C dL_law_1510 rfl (by decide) rfl ?_
                                                    refine r_aload_n (q := 1513) C 4 dL_law_1512 rfl rfl ?_
                                                    obtain ⟨v748, h747, hf⟩ := m_b1_of hf
                                                    refine r_callV (mc := 0) (ms := 0) (q := 1516) (st1 := [.int v748]) C (c_X9_thrown hl h747) rfl w_1016 w_1017 w_1018 w_11 w_1019 hd_X9_thrown rfl (by decide) g743 rfl rfl rfl ⟨(Nat.le_of_ble_eq_true rfl), (Nat.le_of_ble_eq_true rfl)⟩ (Nat.le_of_ble_eq_true rfl) ⟨(Nat.le_trans (show kk131 + 4 ≤ 400000 by omega) rmC), (Nat.le_trans (show nn132 + 24 ≤ 2400000 by omega) rmS)⟩ dL_law_1513 rfl rfl ?_
                                                    refine r_iload (q := 1518) C 1 dL_law_1516 rfl rfl ?_
                                                    refine r_icmp_eq (t := 1523) (q := 1521) C dL_law_1518 (by decide) rfl (fun c749 => ?_) (fun c749 => ?_)
                                                    · replace hf := m_if1 hf c749
                                                      refine r_iload (q := 1525) C 1 dL_law_1523 rfl rfl ?_
                                                      refine r_if_ne (t := 1540) (q := 1528) C dL_law_1525 (by decide) rfl (fun c750 => ?_) (fun c750 => ?_)
                                                      · replace hf := m_if1 hf c750
                                                        refine r_goto (t := 2259) C dL_law_1540 (by decide) ?_
                                                        obtain ⟨v751, e752, hf⟩ := m_lt_of hf
                                                        refine r_iinc (q := 2262) (v := v751) (L' := [(5, .int v751), (7, .int v746), (6, .int v729), (0, .ref b9), (1, .ref a1), (2, .ref a2), (3, .ref a3), (4, .ref a4)]) C 7 dL_law_2259 rfl (by rw [e752]; rfl) rfl (by decide) rfl ?_
                                                        refine r_goto (t := 28) C dL_law_2262 (by decide) ?_
                                                        refine r_sub [3, 4, 5, 6, 7, 0] rfl ?_
                                                        exact ih134 v751 S745 (kk131 + 4) (nn132 + 24) (by omega) (by omega) hf
                                                      · replace hf := m_if0 hf (fun z => z c750)
                                                        refine r_aload_n (q := 1529) C 5 dL_law_1528 rfl rfl ?_
                                                        refine r_iconst (q := 1530) (v := (0 : Int32)) C dL_law_1529 (by decide) rfl ?_
                                                        obtain ⟨g753, hf⟩ := m_gd_of hf
                                                        obtain ⟨g754, hf⟩ := m_gd_of hf
                                                        refine r_lald (q := 1531) C dL_law_1530 ⟨g753, g754⟩ rfl ?_
                                                        refine r_iload (q := 1533) C 0 dL_law_1531 rfl rfl ?_
                                                        refine r_i2l (q := 1534) C dL_law_1533 rfl ?_
                                                        refine r_lcmp (q := 1535) C dL_law_1534 rfl ?_
                                                        refine r_if_eq (t := 1540) (q := 1538) C dL_law_1535 (by decide) rfl (fun c755 => ?_) (fun c755 => ?_)
                                                        · replace hf := m_if1 hf c755
                                                          refine r_goto (t := 2259) C dL_law_1540 (by decide) ?_
                                                          obtain ⟨v756, e757, hf⟩ := m_lt_of hf
                                                          refine r_iinc (q := 2262) (v := v756) (L' := [(5, .int v756), (7, .int v746), (6, .int v729), (0, .ref b9), (1, .ref a1), (2, .ref a2), (3, .ref a3), (4, .ref a4)]) C 7 dL_law_2259 rfl (by rw [e757]; rfl) rfl (by decide) rfl ?_
                                                          refine r_goto (t := 28) C dL_law_2262 (by decide) ?_
                                                          refine r_sub [3, 4, 5, 6, 7, 0] rfl ?_
                                                          exact ih134 v756 S745 (kk131 + 4) (nn132 + 24) (by omega) (by omega) hf
                                                        · replace hf := m_if0 hf c755
                                                          refine r_sub [] rfl ?_
                                                          refine r_wid (k' := 381133) (n' := 2300798) (by omega) (by omega) ?_
                                                          exact J82 S745 hf
                                                    · replace hf := m_if0 hf c749
                                                      refine r_sub [] rfl ?_
                                                      refine r_wid (k' := 381133) (n' := 2300798) (by omega) (by omega) ?_
                                                      exact J84 S745 hf
                                                  · replace hf := m_if0 hf c715
                                                    by_cases c758 : v139 = Int32.ofNat 22
                                                    · replace hf := m_if1 hf c758
                                                      refine r_tsw (N := 0) (t := 1543) (v := 22) C dL_law_45 c758 (by decide) (by decide) rfl (by decide) ?_
                                                      refine r_aload_n (q := 1544) C 1 dL_law_1543 rfl rfl ?_
                                                      refine r_aload_n (q := 1545) C 0 dL_law_1544 rfl rfl ?_
                                                      refine r_iload (q := 1547) C 5 dL_law_1545 rfl rfl ?_
                                                      refine r_iconst (q := 1548) (v := (1 : Int32)) C dL_law_1547 (by decide) rfl ?_
                                                      refine r_iadd (q := 1549) C dL_law_1548 rfl ?_
                                                      obtain ⟨v759, e760, hf⟩ := m_lt_of hf
                                                      refine r_nm e760 ?_
                                                      obtain ⟨g761, hf⟩ := m_gd_of hf
                                                      refine r_sld (q := 1550) C T g761 dL_law_1549 rfl ?_
                                                      refine r_aload_n (q := 1551) C 3 dL_law_1550 rfl rfl ?_
                                                      obtain ⟨v763, S762, h764, hf⟩ := m_bw_of hf
                                                      refine x_callW (q := 1554) (st1 := [.int v763]) C (c_L_remove hl h764) rfl w_745 w_746 w_1 w_747 hd_L_remove rfl rfl rfl ⟨(Nat.le_of_ble_eq_true rfl), (Nat.le_of_ble_eq_true rfl)⟩ (Nat.le_of_ble_eq_true rfl) ⟨(Nat.le_trans (show kk131 + 3 ≤ 400000 by omega) rmC), (Nat.le_trans (show nn132 + 18 ≤ 2400000 by omega) rmS)⟩ dL_law_1551 rfl rfl rfl ?_
                                                      refine r_istore (q := 1556) (L' := [(6, .int v763), (0, .ref b9), (1, .ref a1), (2, .ref a2), (3, .ref a3), (4, .ref a4), (5, .int v129)]) C dL_law_1554 rfl (by decide) rfl ?_
                                                      refine r_aload_n (q := 1557) C 3 dL_law_1556 rfl rfl ?_
                                                      refine r_aload_n (q := 1558) C 1 dL_law_1557 rfl rfl ?_
                                                      refine r_iload (q := 1560) C 6 dL_law_1558 rfl rfl ?_
                                                      refine r_iconst (q := 1561) (v := (1 : Int32)) C dL_law_1560 (by decide) rfl ?_
                                                      refine r_iadd (q := 1562) C dL_law_1561 rfl ?_
                                                      obtain ⟨v765, e766, hf⟩ := m_lt_of hf
                                                      refine r_nm e766 ?_
                                                      obtain ⟨g767, hf⟩ := m_gd_of hf
                                                      refine r_sld (q := 1563) C T g767 dL_law_1562 rfl ?_
                                                      obtain ⟨g768, hf⟩ := m_gd_of hf
                                                      obtain ⟨v771, S770, h769, hf⟩ := m_bw_of hf
                                                      refine r_callV (mc := 0) (ms := 0) (q := 1566) (st1 := [.int v771]) C (c_X9_remove hl h769) rfl w_1218 w_1219 w_1220 w_11 w_1221 hd_X9_remove rfl (by decide) g768 rfl rfl rfl ⟨(Nat.le_of_ble_eq_true rfl), (Nat.le_of_ble_eq_true rfl)⟩ (Nat.le_of_ble_eq_true rfl) ⟨(Nat.le_trans (show kk131 + 3 ≤ 400000 by omega) rmC), (Nat.le_trans (show nn132 + 18 ≤ 2400000 by omega) rmS)⟩ dL_law_1563 rfl rfl ?_
                                                      refine r_istore (q := 1568) (L' := [(7, .int v771), (6, .int v763), (0, .ref b9), (1, .ref a1), (2, .ref a2), (3, .ref a3), (4, .ref a4), (5, .int v129)]) C dL_law_1566 rfl (by decide) rfl ?_
                                                      refine r_aload_n (q := 1569) C 4 dL_law_1568 rfl rfl ?_
                                                      obtain ⟨v773, h772, hf⟩ := m_b1_of hf
                                                      refine r_callV (mc := 0) (ms := 0) (q := 1572) (st1 := [.int v773]) C (c_X9_thrown hl h772) rfl w_1016 w_1017 w_1018 w_11 w_1019 hd_X9_thrown rfl (by decide) g768 rfl rfl rfl ⟨(Nat.le_of_ble_eq_true rfl), (Nat.le_of_ble_eq_true rfl)⟩ (Nat.le_of_ble_eq_true rfl) ⟨(Nat.le_trans (show kk131 + 3 ≤ 400000 by omega) rmC), (Nat.le_trans (show nn132 + 18 ≤ 2400000 by omega) rmS)⟩ dL_law_1569 rfl rfl ?_
                                                      refine r_iload (q := 1574) C 1 dL_law_1572 rfl rfl ?_
                                                      refine r_icmp_eq (t := 1579) (q := 1577) C dL_law_1574 (by decide) rfl (fun c774 => ?_) (fun c774 => ?_)
                                                      · replace hf := m_if1 hf c774
                                                        refine r_iload (q := 1581) C 1 dL_law_1579 rfl rfl ?_
                                                        refine r_if_ne (t := 1596) (q := 1584) C dL_law_1581 (by decide) rfl (fun c775 => ?_) (fun c775 => ?_)
                                                        · replace hf := m_if1 hf c775
                                                          refine r_goto (t := 2259) C dL_law_1596 (by decide) ?_
                                                          obtain ⟨v776, e777, hf⟩ := m_lt_of hf
                                                          refine r_iinc (q := 2262) (v := v776) (L' := [(5, .int v776), (7, .int v771), (6, .int v763), (0, .ref b9), (1, .ref a1), (2, .ref a2), (3, .ref a3), (4, .ref a4)]) C 7 dL_law_2259 rfl (by rw [e777]; rfl) rfl (by decide) rfl ?_
                                                          refine r_goto (t := 28) C dL_law_2262 (by decide) ?_
                                                          refine r_sub [3, 4, 5, 6, 7, 0] rfl ?_
                                                          exact ih134 v776 S770 (kk131 + 3) (nn132 + 18) (by omega) (by omega) hf
                                                        · replace hf := m_if0 hf (fun z => z c775)
                                                          refine r_aload_n (q := 1585) C 5 dL_law_1584 rfl rfl ?_
                                                          refine r_iconst (q := 1586) (v := (0 : Int32)) C dL_law_1585 (by decide) rfl ?_
                                                          obtain ⟨g778, hf⟩ := m_gd_of hf
                                                          obtain ⟨g779, hf⟩ := m_gd_of hf
                                                          refine r_lald (q := 1587) C dL_law_1586 ⟨g778, g779⟩ rfl ?_
                                                          refine r_iload (q := 1589) C 0 dL_law_1587 rfl rfl ?_
                                                          refine r_i2l (q := 1590) C dL_law_1589 rfl ?_
                                                          refine r_lcmp (q := 1591) C dL_law_1590 rfl ?_
                                                          refine r_if_eq (t := 1596) (q := 1594) C dL_law_1591 (by decide) rfl (fun c780 => ?_) (fun c780 => ?_)
                                                          · replace hf := m_if1 hf c780
                                                            refine r_goto (t := 2259) C dL_law_1596 (by decide) ?_
                                                            obtain ⟨v781, e782, hf⟩ := m_lt_of hf
                                                            refine r_iinc (q := 2262) (v := v781) (L' := [(5, .int v781), (7, .int v771), (6, .int v763), (0, .ref b9), (1, .ref a1), (2, .ref a2), (3, .ref a3), (4, .ref a4)]) C 7 dL_law_2259 rfl (by rw [e782]; rfl) rfl (by decide) rfl ?_
                                                            refine r_goto (t := 28) C dL_law_2262 (by decide) ?_
                                                            refine r_sub [3, 4, 5, 6, 7, 0] rfl ?_
                                                            exact ih134 v781 S770 (kk131 + 3) (nn132 + 18) (by omega) (by omega) hf
                                                          · replace hf := m_if0 hf c780
                                                            refine r_sub [] rfl ?_
                                                            refine r_wid (k' := 381133) (n' := 2300798) (by omega) (by omega) ?_
                                                            exact J86 S770 hf
                                                      · replace hf := m_if0 hf c774
                                                        refine r_sub [] rfl ?_
                                                        refine r_wid (k' := 381133) (n' := 2300798) (by omega) (by omega) ?_
                                                        exact J88 S770 hf
                                                    · replace hf := m_if0 hf c758
                                                      by_cases c783 : v139 = Int32.ofNat 23
                                                      · replace hf := m_if1 hf c783
                                                        refine r_tsw (N := 0) (t := 1599) (v := 23) C dL_law_45 c783 (by decide) (by decide) rfl (by decide) ?_
                                                        refine r_aload_n (q := 1600) C 1 dL_law_1599 rfl rfl ?_
                                                        refine r_aload_n (q := 1601) C 0 dL_law_1600 rfl rfl ?_
                                                        refine r_iload (q := 1603) C 5 dL_law_1601 rfl rfl ?_
                                                        refine r_iconst (q := 1604) (v := (1 : Int32)) C dL_law_1603 (by decide) rfl ?_
                                                        refine r_iadd (q := 1605) C dL_law_1604 rfl ?_
                                                        obtain ⟨v784, e785, hf⟩ := m_lt_of hf
                                                        refine r_nm e785 ?_
                                                        obtain ⟨g786, hf⟩ := m_gd_of hf
                                                        refine r_sld (q := 1606) C T g786 dL_law_1605 rfl ?_
                                                        refine r_aload_n (q := 1607) C 0 dL_law_1606 rfl rfl ?_
                                                        refine r_iload (q := 1609) C 5 dL_law_1607 rfl rfl ?_
                                                        refine r_iconst (q := 1610) (v := (2 : Int32)) C dL_law_1609 (by decide) rfl ?_
                                                        refine r_iadd (q := 1611) C dL_law_1610 rfl ?_
                                                        obtain ⟨v787, e788, hf⟩ := m_lt_of hf
                                                        refine r_nm e788 ?_
                                                        obtain ⟨g789, hf⟩ := m_gd_of hf
                                                        refine r_sld (q := 1612) C T g789 dL_law_1611 rfl ?_
                                                        refine r_aload_n (q := 1613) C 3 dL_law_1612 rfl rfl ?_
                                                        obtain ⟨v791, S790, h792, hf⟩ := m_bw_of hf
                                                        refine x_callW (q := 1616) (st1 := [.int v791]) C (c_L_move hl h792) rfl w_762 w_763 w_1 w_764 hd_L_move rfl rfl rfl ⟨(Nat.le_of_ble_eq_true rfl), (Nat.le_of_ble_eq_true rfl)⟩ (Nat.le_of_ble_eq_true rfl) ⟨(Nat.le_trans (show kk131 + 5 ≤ 400000 by omega) rmC), (Nat.le_trans (show nn132 + 30 ≤ 2400000 by omega) rmS)⟩ dL_law_1613 rfl rfl rfl ?_
                                                        refine r_istore (q := 1618) (L' := [(6, .int v791), (0, .ref b9), (1, .ref a1), (2, .ref a2), (3, .ref a3), (4, .ref a4), (5, .int v129)]) C dL_law_1616 rfl (by decide) rfl ?_
                                                        refine r_aload_n (q := 1619) C 3 dL_law_1618 rfl rfl ?_
                                                        refine r_aload_n (q := 1620) C 1 dL_law_1619 rfl rfl ?_
                                                        refine r_iload (q := 1622) C 6 dL_law_1620 rfl rfl ?_
                                                        refine r_iconst (q := 1623) (v := (1 : Int32)) C dL_law_1622 (by decide) rfl ?_
                                                        refine r_iadd (q := 1624) C dL_law_1623 rfl ?_
                                                        obtain ⟨v793, e794, hf⟩ := m_lt_of hf
                                                        refine r_nm e794 ?_
                                                        obtain ⟨g795, hf⟩ := m_gd_of hf
                                                        refine r_sld (q := 1625) C T g795 dL_law_1624 rfl ?_
                                                        refine r_aload_n (q := 1626) C 1 dL_law_1625 rfl rfl ?_
                                                        refine r_iload (q := 1628) C 6 dL_law_1626 rfl rfl ?_
                                                        refine r_iconst (q := 1629) (v := (2 : Int32)) C dL_law_1628 (by decide) rfl ?_
                                                        refine r_iadd (q := 1630) C dL_law_1629 rfl ?_
                                                        obtain ⟨v796, e797, hf⟩ := m_lt_of hf
                                                        refine r_nm e797 ?_
                                                        obtain ⟨g798, hf⟩ := m_gd_of hf
                                                        refine r_sld (q := 1631) C T g798 dL_law_1630 rfl ?_
                                                        obtain ⟨g799, hf⟩ := m_gd_of hf
                                                        obtain ⟨v802, S801, h800, hf⟩ := m_bw_of hf
                                                        refine r_callV (mc := 0) (ms := 0) (q := 1634) (st1 := [.int v802]) C (c_X9_move hl h800) rfl w_1225 w_1226 w_1227 w_11 w_1228 hd_X9_move rfl (by decide) g799 rfl rfl rfl ⟨(Nat.le_of_ble_eq_true rfl), (Nat.le_of_ble_eq_true rfl)⟩ (Nat.le_of_ble_eq_true rfl) ⟨(Nat.le_trans (show kk131 + 5 ≤ 400000 by omega) rmC), (Nat.le_trans (show nn132 + 30 ≤ 2400000 by omega) rmS)⟩ dL_law_1631 rfl rfl ?_
                                                        refine r_istore (q := 1636) (L' := [(7, .int v802), (6, .int v791), (0, .ref b9), (1, .ref a1), (2, .ref a2), (3, .ref a3), (4, .ref a4), (5, .int v129)]) C dL_law_1634 rfl (by decide) rfl ?_
                                                        refine r_aload_n (q := 1637) C 4 dL_law_1636 rfl rfl ?_
                                                        obtain ⟨v804, h803, hf⟩ := m_b1_of hf
                                                        refine r_callV (mc := 0) (ms := 0) (q := 1640) (st1 := [.int v804]) C (c_X9_thrown hl h803) rfl w_1016 w_1017 w_1018 w_11 w_1019 hd_X9_thrown rfl (by decide) g799 rfl rfl rfl ⟨(Nat.le_of_ble_eq_true rfl), (Nat.le_of_ble_eq_true rfl)⟩ (Nat.le_of_ble_eq_true rfl) ⟨(Nat.le_trans (show kk131 + 5 ≤ 400000 by omega) rmC), (Nat.le_trans (show nn132 + 30 ≤ 2400000 by omega) rmS)⟩ dL_law_1637 rfl rfl ?_
                                                        refine r_iload (q := 1642) C 1 dL_law_1640 rfl rfl ?_
                                                        refine r_icmp_eq (t := 1647) (q := 1645) C dL_law_1642 (by decide) rfl (fun c805 => ?_) (fun c805 => ?_)
                                                        · replace hf := m_if1 hf c805
                                                          refine r_iload (q := 1649) C 1 dL_law_1647 rfl rfl ?_
                                                          refine r_if_ne (t := 1664) (q := 1652) C dL_law_1649 (by decide) rfl (fun c806 => ?_) (fun c806 => ?_)
                                                          · replace hf := m_if1 hf c806
                                                            refine r_goto (t := 2259) C dL_law_1664 (by decide) ?_
                                                            obtain ⟨v807, e808, hf⟩ := m_lt_of hf
                                                            refine r_iinc (q := 2262) (v := v807) (L' := [(5, .int v807), (7, .int v802), (6, .int v791), (0, .ref b9), (1, .ref a1), (2, .ref a2), (3, .ref a3), (4, .ref a4)]) C 7 dL_law_2259 rfl (by rw [e808]; rfl) rfl (by decide) rfl ?_
                                                            refine r_goto (t := 28) C dL_law_2262 (by decide) ?_
                                                            refine r_sub [3, 4, 5, 6, 7, 0] rfl ?_
                                                            exact ih134 v807 S801 (kk131 + 5) (nn132 + 30) (by omega) (by omega) hf
                                                          · replace hf := m_if0 hf (fun z => z c806)
                                                            refine r_aload_n (q := 1653) C 5 dL_law_1652 rfl rfl ?_
                                                            refine r_iconst (q := 1654) (v := (0 : Int32)) C dL_law_1653 (by decide) rfl ?_
                                                            obtain ⟨g809, hf⟩ := m_gd_of hf
                                                            obtain ⟨g810, hf⟩ := m_gd_of hf
                                                            refine r_lald (q := 1655) C dL_law_1654 ⟨g809, g810⟩ rfl ?_
                                                            refine r_iload (q := 1657) C 0 dL_law_1655 rfl rfl ?_
                                                            refine r_i2l (q := 1658) C dL_law_1657 rfl ?_
                                                            refine r_lcmp (q := 1659) C dL_law_1658 rfl ?_
                                                            refine r_if_eq (t := 1664) (q := 1662) C dL_law_1659 (by decide) rfl (fun c811 => ?_) (fun c811 => ?_)
                                                            · replace hf := m_if1 hf c811
                                                              refine r_goto (t := 2259) C dL_law_1664 (by decide) ?_
                                                              obtain ⟨v812, e813, hf⟩ := m_lt_of hf
                                                              refine r_iinc (q := 2262) (v := v812) (L' := [(5, .int v812), (7, .int v802), (6, .int v791), (0, .ref b9), (1, .ref a1), (2, .ref a2), (3, .ref a3), (4, .ref a4)]) C 7 dL_law_2259 rfl (by rw [e813]; rfl) rfl (by decide) rfl ?_
                                                              refine r_goto (t := 28) C dL_law_2262 (by decide) ?_
                                                              refine r_sub [3, 4, 5, 6, 7, 0] rfl ?_
                                                              exact ih134 v812 S801 (kk131 + 5) (nn132 + 30) (by omega) (by omega) hf
                                                            · replace hf := m_if0 hf c811
                                                              refine r_sub [] rfl ?_
                                                              refine r_wid (k' := 381133) (n' := 2300798) (by omega) (by omega) ?_
                                                              exact J90 S801 hf
                                                        · replace hf := m_if0 hf c805
                                                          refine r_sub [] rfl ?_
                                                          refine r_wid (k' := 381133) (n' := 2300798) (by omega) (by omega) ?_
                                                          exact J92 S801 hf
                                                      · replace hf := m_if0 hf c783
                                                        by_cases c814 : v139 = Int32.ofNat 24
                                                        · replace hf := m_if1 hf c814
                                                          refine r_tsw (N := 0) (t := 1667) (v := 24) C dL_law_45 c814 (by decide) (by decide) rfl (by decide) ?_
                                                          refine r_aload_n (q := 1668) C 1 dL_law_1667 rfl rfl ?_
                                                          refine r_aload_n (q := 1669) C 0 dL_law_1668 rfl rfl ?_
                                                          refine r_iload (q := 1671) C 5 dL_law_1669 rfl rfl ?_
                                                          refine r_iconst (q := 1672) (v := (1 : Int32)) C dL_law_1671 (by decide) rfl ?_
                                                          refine r_iadd (q := 1673) C dL_law_1672 rfl ?_
                                                          obtain ⟨v815, e816, hf⟩ := m_lt_of hf
                                                          refine r_nm e816 ?_
                                                          obtain ⟨g817, hf⟩ := m_gd_of hf
                                                          refine r_sld (q := 1674) C T g817 dL_law_1673 rfl ?_
                                                          refine r_aload_n (q := 1675) C 0 dL_law_1674 rfl rfl ?_
                                                          refine r_iload (q := 1677) C 5 dL_law_1675 rfl rfl ?_
                                                          refine r_iconst (q := 1678) (v := (2 : Int32)) C dL_law_1677 (by decide) rfl ?_
                                                          refine r_iadd (q := 1679) C dL_law_1678 rfl ?_
                                                          obtain ⟨v818, e819, hf⟩ := m_lt_of hf
                                                          refine r_nm e819 ?_
                                                          obtain ⟨g820, hf⟩ := m_gd_of hf
                                                          refine r_sld (q := 1680) C T g820 dL_law_1679 rfl ?_
                                                          refine r_aload_n (q := 1681) C 3 dL_law_1680 rfl rfl ?_
                                                          obtain ⟨v822, S821, h823, hf⟩ := m_bw_of hf
                                                          refine x_callW (q := 1684) (st1 := [.int v822]) C (c_L_exchange hl h823) rfl w_773 w_774 w_1 w_775 hd_L_exchange rfl rfl rfl ⟨(Nat.le_of_ble_eq_true rfl), (Nat.le_of_ble_eq_true rfl)⟩ (Nat.le_of_ble_eq_true rfl) ⟨(Nat.le_trans (show kk131 + 4 ≤ 400000 by omega) rmC), (Nat.le_trans (show nn132 + 24 ≤ 2400000 by omega) rmS)⟩ dL_law_1681 rfl rfl rfl ?_
                                                          refine r_istore (q := 1686) (L' := [(6, .int v822), (0, .ref b9), (1, .ref a1), (2, .ref a2), (3, .ref a3), (4, .ref a4), (5, .int v129)]) C dL_law_1684 rfl (by decide) rfl ?_
                                                          refine r_aload_n (q := 1687) C 3 dL_law_1686 rfl rfl ?_
                                                          refine r_aload_n (q := 1688) C 1 dL_law_1687 rfl rfl ?_
                                                          refine r_iload (q := 1690) C 6 dL_law_1688 rfl rfl ?_
                                                          refine r_iconst (q := 1691) (v := (1 : Int32)) C dL_law_1690 (by decide) rfl ?_
                                                          refine r_iadd (q := 1692) C dL_law_1691 rfl ?_
                                                          obtain ⟨v824, e825, hf⟩ := m_lt_of hf
                                                          refine r_nm e825 ?_
                                                          obtain ⟨g826, hf⟩ := m_gd_of hf
                                                          refine r_sld (q := 1693) C T g826 dL_law_1692 rfl ?_
                                                          refine r_aload_n (q := 1694) C 1 dL_law_1693 rfl rfl ?_
                                                          refine r_iload (q := 1696) C 6 dL_law_1694 rfl rfl ?_
                                                          refine r_iconst (q := 1697) (v := (2 : Int32)) C dL_law_1696 (by decide) rfl ?_
                                                          refine r_iadd (q := 1698) C dL_law_1697 rfl ?_
                                                          obtain ⟨v827, e828, hf⟩ := m_lt_of hf
                                                          refine r_nm e828 ?_
                                                          obtain ⟨g829, hf⟩ := m_gd_of hf
                                                          refine r_sld (q := 1699) C T g829 dL_law_1698 rfl ?_
                                                          obtain ⟨g830, hf⟩ := m_gd_of hf
                                                          obtain ⟨v833, S832, h831, hf⟩ := m_bw_of hf
                                                          refine r_callV (mc := 0) (ms := 0) (q := 1702) (st1 := [.int v833]) C (c_X9_exchange hl h831) rfl w_1229 w_1230 w_1231 w_11 w_1232 hd_X9_exchange rfl (by decide) g830 rfl rfl rfl ⟨(Nat.le_of_ble_eq_true rfl), (Nat.le_of_ble_eq_true rfl)⟩ (Nat.le_of_ble_eq_true rfl) ⟨(Nat.le_trans (show kk131 + 4 ≤ 400000 by omega) rmC), (Nat.le_trans (show nn132 + 24 ≤ 2400000 by omega) rmS)⟩ dL_law_1699 rfl rfl ?_
                                                          refine r_istore (q := 1704) (L' := [(7, .int v833), (6, .int v822), (0, .ref b9), (1, .ref a1), (2, .ref a2), (3, .ref a3), (4, .ref a4), (5, .int v129)]) C dL_law_1702 rfl (by decide) rfl ?_
                                                          refine r_aload_n (q := 1705) C 4 dL_law_1704 rfl rfl ?_
                                                          obtain ⟨v835, h834, hf⟩ := m_b1_of hf
                                                          refine r_callV (mc := 0) (ms := 0) (q := 1708) (st1 := [.int v835]) C (c_X9_thrown hl h834) rfl w_1016 w_1017 w_1018 w_11 w_1019 hd_X9_thrown rfl (by decide) g830 rfl rfl rfl ⟨(Nat.le_of_ble_eq_true rfl), (Nat.le_of_ble_eq_true rfl)⟩ (Nat.le_of_ble_eq_true rfl) ⟨(Nat.le_trans (show kk131 + 4 ≤ 400000 by omega) rmC), (Nat.le_trans (show nn132 + 24 ≤ 2400000 by omega) rmS)⟩ dL_law_1705 rfl rfl ?_
                                                          refine r_iload (q := 1710) C 1 dL_law_1708 rfl rfl ?_
                                                          refine r_icmp_eq (t := 1715) (q := 1713) C dL_law_1710 (by decide) rfl (fun c836 => ?_) (fun c836 => ?_)
                                                          · replace hf := m_if1 hf c836
                                                            refine r_iload (q := 1717) C 1 dL_law_1715 rfl rfl ?_
                                                            refine r_if_ne (t := 1732) (q := 1720) C dL_law_1717 (by decide) rfl (fun c837 => ?_) (fun c837 => ?_)
                                                            · replace hf := m_if1 hf c837
                                                              refine r_goto (t := 2259) C dL_law_1732 (by decide) ?_
                                                              obtain ⟨v838, e839, hf⟩ := m_lt_of hf
                                                              refine r_iinc (q := 2262) (v := v838) (L' := [(5, .int v838), (7, .int v833), (6, .int v822), (0, .ref b9), (1, .ref a1), (2, .ref a2), (3, .ref a3), (4, .ref a4)]) C 7 dL_law_2259 rfl (by rw [e839]; rfl) rfl (by decide) rfl ?_
                                                              refine r_goto (t := 28) C dL_law_2262 (by decide) ?_
                                                              refine r_sub [3, 4, 5, 6, 7, 0] rfl ?_
                                                              exact ih134 v838 S832 (kk131 + 4) (nn132 + 24) (by omega) (by omega) hf
                                                            · replace hf := m_if0 hf (fun z => z c837)
                                                              refine r_aload_n (q := 1721) C 5 dL_law_1720 rfl rfl ?_
                                                              refine r_iconst (q := 1722) (v := (0 : Int32)) C dL_law_1721 (by decide) rfl ?_
                                                              obtain ⟨g840, hf⟩ := m_gd_of hf
                                                              obtain ⟨g841, hf⟩ := m_gd_of hf
                                                              refine r_lald (q := 1723) C dL_law_1722 ⟨g840, g841⟩ rfl ?_
                                                              refine r_iload (q := 1725) C 0 dL_law_1723 rfl rfl ?_
                                                              refine r_i2l (q := 1726) C dL_law_1725 rfl ?_
                                                              refine r_lcmp (q := 1727) C dL_law_1726 rfl ?_
                                                              refine r_if_eq (t := 1732) (q := 1730) C dL_law_1727 (by decide) rfl (fun c842 => ?_) (fun c842 => ?_)
                                                              · replace hf := m_if1 hf c842
                                                                refine r_goto (t := 2259) C dL_law_1732 (by decide) ?_
                                                                obtain ⟨v843, e844, hf⟩ := m_lt_of hf
                                                                refine r_iinc (q := 2262) (v := v843) (L' := [(5, .int v843), (7, .int v833), (6, .int v822), (0, .ref b9), (1, .ref a1), (2, .ref a2), (3, .ref a3), (4, .ref a4)]) C 7 dL_law_2259 rfl (by rw [e844]; rfl) rfl (by decide) rfl ?_
                                                                refine r_goto (t := 28) C dL_law_2262 (by decide) ?_
                                                                refine r_sub [3, 4, 5, 6, 7, 0] rfl ?_
                                                                exact ih134 v843 S832 (kk131 + 4) (nn132 + 24) (by omega) (by omega) hf
                                                              · replace hf := m_if0 hf c842
                                                                refine r_sub [] rfl ?_
                                                                refine r_wid (k' := 381133) (n' := 2300798) (by omega) (by omega) ?_
                                                                exact J94 S832 hf
                                                          · replace hf := m_if0 hf c836
                                                            refine r_sub [] rfl ?_
                                                            refine r_wid (k' := 381133) (n' := 2300798) (by omega) (by omega) ?_
                                                            exact J96 S832 hf
                                                        · replace hf := m_if0 hf c814
                                                          by_cases c845 : v139 = Int32.ofNat 25
                                                          · replace hf := m_if1 hf c845
                                                            refine r_tsw (N := 0) (t := 1735) (v := 25) C dL_law_45 c845 (by decide) (by decide) rfl (by decide) ?_
                                                            refine r_aload_n (q := 1736) C 1 dL_law_1735 rfl rfl ?_
                                                            refine r_aload_n (q := 1737) C 0 dL_law_1736 rfl rfl ?_
                                                            refine r_iload (q := 1739) C 5 dL_law_1737 rfl rfl ?_
                                                            refine r_iconst (q := 1740) (v := (1 : Int32)) C dL_law_1739 (by decide) rfl ?_
                                                            refine r_iadd (q := 1741) C dL_law_1740 rfl ?_
                                                            obtain ⟨v846, e847, hf⟩ := m_lt_of hf
                                                            refine r_nm e847 ?_
                                                            obtain ⟨g848, hf⟩ := m_gd_of hf
                                                            refine r_sld (q := 1742) C T g848 dL_law_1741 rfl ?_
                                                            refine r_aload_n (q := 1743) C 3 dL_law_1742 rfl rfl ?_
                                                            obtain ⟨v850, S849, h851, hf⟩ := m_bw_of hf
                                                            refine x_callW (q := 1746) (st1 := [.int v850]) C (c_L_advance hl h851) rfl w_788 w_789 w_1 w_790 hd_L_advance rfl rfl rfl ⟨(Nat.le_of_ble_eq_true rfl), (Nat.le_of_ble_eq_true rfl)⟩ (Nat.le_of_ble_eq_true rfl) ⟨(Nat.le_trans (show kk131 + 2 ≤ 400000 by omega) rmC), (Nat.le_trans (show nn132 + 12 ≤ 2400000 by omega) rmS)⟩ dL_law_1743 rfl rfl rfl ?_
                                                            refine r_istore (q := 1748) (L' := [(6, .int v850), (0, .ref b9), (1, .ref a1), (2, .ref a2), (3, .ref a3), (4, .ref a4), (5, .int v129)]) C dL_law_1746 rfl (by decide) rfl ?_
                                                            refine r_aload_n (q := 1749) C 3 dL_law_1748 rfl rfl ?_
                                                            refine r_aload_n (q := 1750) C 1 dL_law_1749 rfl rfl ?_
                                                            refine r_iload (q := 1752) C 6 dL_law_1750 rfl rfl ?_
                                                            refine r_iconst (q := 1753) (v := (1 : Int32)) C dL_law_1752 (by decide) rfl ?_
                                                            refine r_iadd (q := 1754) C dL_law_1753 rfl ?_
                                                            obtain ⟨v852, e853, hf⟩ := m_lt_of hf
                                                            refine r_nm e853 ?_
                                                            obtain ⟨g854, hf⟩ := m_gd_of hf
                                                            refine r_sld (q := 1755) C T g854 dL_law_1754 rfl ?_
                                                            obtain ⟨g855, hf⟩ := m_gd_of hf
                                                            obtain ⟨v858, S857, h856, hf⟩ := m_bw_of hf
                                                            refine r_callV (mc := 0) (ms := 0) (q := 1758) (st1 := [.int v858]) C (c_X9_advance hl h856) rfl w_1236 w_1237 w_1238 w_11 w_1239 hd_X9_advance rfl (by decide) g855 rfl rfl rfl ⟨(Nat.le_of_ble_eq_true rfl), (Nat.le_of_ble_eq_true rfl)⟩ (Nat.le_of_ble_eq_true rfl) ⟨(Nat.le_trans (show kk131 + 2 ≤ 400000 by omega) rmC), (Nat.le_trans (show nn132 + 12 ≤ 2400000 by omega) rmS)⟩ dL_law_1755 rfl rfl ?_
                                                            refine r_istore (q := 1760) (L' := [(7, .int v858), (6, .int v850), (0, .ref b9), (1, .ref a1), (2, .ref a2), (3, .ref a3), (4, .ref a4), (5, .int v129)]) C dL_law_1758 rfl (by decide) rfl ?_
                                                            refine r_aload_n (q := 1761) C 4 dL_law_1760 rfl rfl ?_
                                                            obtain ⟨v860, h859, hf⟩ := m_b1_of hf
                                                            refine r_callV (mc := 0) (ms := 0) (q := 1764) (st1 := [.int v860]) C (c_X9_thrown hl h859) rfl w_1016 w_1017 w_1018 w_11 w_1019 hd_X9_thrown rfl (by decide) g855 rfl rfl rfl ⟨(Nat.le_of_ble_eq_true rfl), (Nat.le_of_ble_eq_true rfl)⟩ (Nat.le_of_ble_eq_true rfl) ⟨(Nat.le_trans (show kk131 + 2 ≤ 400000 by omega) rmC), (Nat.le_trans (show nn132 + 12 ≤ 2400000 by omega) rmS)⟩ dL_law_1761 rfl rfl ?_
                                                            refine r_iload (q := 1766) C 1 dL_law_1764 rfl rfl ?_
                                                            refine r_icmp_eq (t := 1771) (q := 1769) C dL_law_1766 (by decide) rfl (fun c861 => ?_) (fun c861 => ?_)
                                                            · replace hf := m_if1 hf c861
                                                              refine r_iload (q := 1773) C 1 dL_law_1771 rfl rfl ?_
                                                              refine r_if_ne (t := 1788) (q := 1776) C dL_law_1773 (by decide) rfl (fun c862 => ?_) (fun c862 => ?_)
                                                              · replace hf := m_if1 hf c862
                                                                refine r_goto (t := 2259) C dL_law_1788 (by decide) ?_
                                                                obtain ⟨v863, e864, hf⟩ := m_lt_of hf
                                                                refine r_iinc (q := 2262) (v := v863) (L' := [(5, .int v863), (7, .int v858), (6, .int v850), (0, .ref b9), (1, .ref a1), (2, .ref a2), (3, .ref a3), (4, .ref a4)]) C 7 dL_law_2259 rfl (by rw [e864]; rfl) rfl (by decide) rfl ?_
                                                                refine r_goto (t := 28) C dL_law_2262 (by decide) ?_
                                                                refine r_sub [3, 4, 5, 6, 7, 0] rfl ?_
                                                                exact ih134 v863 S857 (kk131 + 2) (nn132 + 12) (by omega) (by omega) hf
                                                              · replace hf := m_if0 hf (fun z => z c862)
                                                                refine r_aload_n (q := 1777) C 5 dL_law_1776 rfl rfl ?_
                                                                refine r_iconst (q := 1778) (v := (0 : Int32)) C dL_law_1777 (by decide) rfl ?_
                                                                obtain ⟨g865, hf⟩ := m_gd_of hf
                                                                obtain ⟨g866, hf⟩ := m_gd_of hf
                                                                refine r_lald (q := 1779) C dL_law_1778 ⟨g865, g866⟩ rfl ?_
                                                                refine r_iload (q := 1781) C 0 dL_law_1779 rfl rfl ?_
                                                                refine r_i2l (q := 1782) C dL_law_1781 rfl ?_
                                                                refine r_lcmp (q := 1783) C dL_law_1782 rfl ?_
                                                                refine r_if_eq (t := 1788) (q := 1786) C dL_law_1783 (by decide) rfl (fun c867 => ?_) (fun c867 => ?_)
                                                                · replace hf := m_if1 hf c867
                                                                  refine r_goto (t := 2259) C dL_law_1788 (by decide) ?_
                                                                  obtain ⟨v868, e869, hf⟩ := m_lt_of hf
                                                                  refine r_iinc (q := 2262) (v := v868) (L' := [(5, .int v868), (7, .int v858), (6, .int v850), (0, .ref b9), (1, .ref a1), (2, .ref a2), (3, .ref a3), (4, .ref a4)]) C 7 dL_law_2259 rfl (by rw [e869]; rfl) rfl (by decide) rfl ?_
                                                                  refine r_goto (t := 28) C dL_law_2262 (by decide) ?_
                                                                  refine r_sub [3, 4, 5, 6, 7, 0] rfl ?_
                                                                  exact ih134 v868 S857 (kk131 + 2) (nn132 + 12) (by omega) (by omega) hf
                                                                · replace hf := m_if0 hf c867
                                                                  refine r_sub [] rfl ?_
                                                                  refine r_wid (k' := 381133) (n' := 2300798) (by omega) (by omega) ?_
                                                                  exact J98 S857 hf
                                                            · replace hf := m_if0 hf c861
                                                              refine r_sub [] rfl ?_
                                                              refine r_wid (k' := 381133) (n' := 2300798) (by omega) (by omega) ?_
                                                              exact J100 S857 hf
                                                          · replace hf := m_if0 hf c845
                                                            by_cases c870 : v139 = Int32.ofNat 26
                                                            · replace hf := m_if1 hf c870
                                                              refine r_tsw (N := 0) (t := 1791) (v := 26) C dL_law_45 c870 (by decide) (by decide) rfl (by decide) ?_
                                                              refine r_aload_n (q := 1792) C 1 dL_law_1791 rfl rfl ?_
                                                              refine r_aload_n (q := 1793) C 0 dL_law_1792 rfl rfl ?_
                                                              refine r_iload (q := 1795) C 5 dL_law_1793 rfl rfl ?_
                                                              refine r_iconst (q := 1796) (v := (1 : Int32)) C dL_law_1795 (by decide) rfl ?_
                                                              refine r_iadd (q := 1797) C dL_law_1796 rfl ?_
                                                              obtain ⟨v871, e872, hf⟩ := m_lt_of hf
                                                              refine r_nm e872 ?_
                                                              obtain ⟨g873, hf⟩ := m_gd_of hf
                                                              refine r_sld (q := 1798) C T g873 dL_law_1797 rfl ?_
                                                              refine r_aload_n (q := 1799) C 3 dL_law_1798 rfl rfl ?_
                                                              obtain ⟨v875, S874, h876, hf⟩ := m_bw_of hf
                                                              refine x_callW (q := 1802) (st1 := [.int v875]) C (c_L_roomIn hl h876) rfl w_830 w_831 w_1 w_832 hd_L_roomIn rfl rfl rfl ⟨(Nat.le_of_ble_eq_true rfl), (Nat.le_of_ble_eq_true rfl)⟩ (Nat.le_of_ble_eq_true rfl) ⟨(Nat.le_trans (show kk131 + 1 ≤ 400000 by omega) rmC), (Nat.le_trans (show nn132 + 6 ≤ 2400000 by omega) rmS)⟩ dL_law_1799 rfl rfl rfl ?_
                                                              refine r_istore (q := 1804) (L' := [(6, .int v875), (0, .ref b9), (1, .ref a1), (2, .ref a2), (3, .ref a3), (4, .ref a4), (5, .int v129)]) C dL_law_1802 rfl (by decide) rfl ?_
                                                              refine r_aload_n (q := 1805) C 3 dL_law_1804 rfl rfl ?_
                                                              refine r_aload_n (q := 1806) C 1 dL_law_1805 rfl rfl ?_
                                                              refine r_iload (q := 1808) C 6 dL_law_1806 rfl rfl ?_
                                                              refine r_iconst (q := 1809) (v := (1 : Int32)) C dL_law_1808 (by decide) rfl ?_
                                                              refine r_iadd (q := 1810) C dL_law_1809 rfl ?_
                                                              obtain ⟨v877, e878, hf⟩ := m_lt_of hf
                                                              refine r_nm e878 ?_
                                                              obtain ⟨g879, hf⟩ := m_gd_of hf
                                                              refine r_sld (q := 1811) C T g879 dL_law_1810 rfl ?_
                                                              obtain ⟨g880, hf⟩ := m_gd_of hf
                                                              obtain ⟨v883, S882, h881, hf⟩ := m_bw_of hf
                                                              refine r_callV (mc := 0) (ms := 0) (q := 1814) (st1 := [.int v883]) C (c_X9_roomIn hl h881) rfl w_1254 w_1255 w_1256 w_11 w_1257 hd_X9_roomIn rfl (by decide) g880 rfl rfl rfl ⟨(Nat.le_of_ble_eq_true rfl), (Nat.le_of_ble_eq_true rfl)⟩ (Nat.le_of_ble_eq_true rfl) ⟨(Nat.le_trans (show kk131 + 1 ≤ 400000 by omega) rmC), (Nat.le_trans (show nn132 + 6 ≤ 2400000 by omega) rmS)⟩ dL_law_1811 rfl rfl ?_
                                                              refine r_istore (q := 1816) (L' := [(7, .int v883), (6, .int v875), (0, .ref b9), (1, .ref a1), (2, .ref a2), (3, .ref a3), (4, .ref a4), (5, .int v129)]) C dL_law_1814 rfl (by decide) rfl ?_
                                                              refine r_aload_n (q := 1817) C 4 dL_law_1816 rfl rfl ?_
                                                              obtain ⟨v885, h884, hf⟩ := m_b1_of hf
                                                              refine r_callV (mc := 0) (ms := 0) (q := 1820) (st1 := [.int v885]) C (c_X9_thrown hl h884) rfl w_1016 w_1017 w_1018 w_11 w_1019 hd_X9_thrown rfl (by decide) g880 rfl rfl rfl ⟨(Nat.le_of_ble_eq_true rfl), (Nat.le_of_ble_eq_true rfl)⟩ (Nat.le_of_ble_eq_true rfl) ⟨(Nat.le_trans (show kk131 + 1 ≤ 400000 by omega) rmC), (Nat.le_trans (show nn132 + 6 ≤ 2400000 by omega) rmS)⟩ dL_law_1817 rfl rfl ?_
                                                              refine r_iload (q := 1822) C 1 dL_law_1820 rfl rfl ?_
                                                              refine r_icmp_eq (t := 1827) (q := 1825) C dL_law_1822 (by decide) rfl (fun c886 => ?_) (fun c886 => ?_)
                                                              · replace hf := m_if1 hf c886
                                                                refine r_iload (q := 1829) C 1 dL_law_1827 rfl rfl ?_
                                                                refine r_if_ne (t := 1844) (q := 1832) C dL_law_1829 (by decide) rfl (fun c887 => ?_) (fun c887 => ?_)
                                                                · replace hf := m_if1 hf c887
                                                                  refine r_goto (t := 2259) C dL_law_1844 (by decide) ?_
                                                                  obtain ⟨v888, e889, hf⟩ := m_lt_of hf
                                                                  refine r_iinc (q := 2262) (v := v888) (L' := [(5, .int v888), (7, .int v883), (6, .int v875), (0, .ref b9), (1, .ref a1), (2, .ref a2), (3, .ref a3), (4, .ref a4)]) C 7 dL_law_2259 rfl (by rw [e889]; rfl) rfl (by decide) rfl ?_
                                                                  refine r_goto (t := 28) C dL_law_2262 (by decide) ?_
                                                                  refine r_sub [3, 4, 5, 6, 7, 0] rfl ?_
                                                                  exact ih134 v888 S882 (kk131 + 1) (nn132 + 6) (by omega) (by omega) hf
                                                                · replace hf := m_if0 hf (fun z => z c887)
                                                                  refine r_aload_n (q := 1833) C 5 dL_law_1832 rfl rfl ?_
                                                                  refine r_iconst (q := 1834) (v := (0 : Int32)) C dL_law_1833 (by decide) rfl ?_
                                                                  obtain ⟨g890, hf⟩ := m_gd_of hf
                                                                  obtain ⟨g891, hf⟩ := m_gd_of hf
                                                                  refine r_lald (q := 1835) C dL_law_1834 ⟨g890, g891⟩ rfl ?_
                                                                  refine r_iload (q := 1837) C 0 dL_law_1835 rfl rfl ?_
                                                                  refine r_i2l (q := 1838) C dL_law_1837 rfl ?_
                                                                  refine r_lcmp (q := 1839) C dL_law_1838 rfl ?_
                                                                  refine r_if_eq (t := 1844) (q := 1842) C dL_law_1839 (by decide) rfl (fun c892 => ?_) (fun c892 => ?_)
                                                                  · replace hf := m_if1 hf c892
                                                                    refine r_goto (t := 2259) C dL_law_1844 (by decide) ?_
                                                                    obtain ⟨v893, e894, hf⟩ := m_lt_of hf
                                                                    refine r_iinc (q := 2262) (v := v893) (L' := [(5, .int v893), (7, .int v883), (6, .int v875), (0, .ref b9), (1, .ref a1), (2, .ref a2), (3, .ref a3), (4, .ref a4)]) C 7 dL_law_2259 rfl (by rw [e894]; rfl) rfl (by decide) rfl ?_
                                                                    refine r_goto (t := 28) C dL_law_2262 (by decide) ?_
                                                                    refine r_sub [3, 4, 5, 6, 7, 0] rfl ?_
                                                                    exact ih134 v893 S882 (kk131 + 1) (nn132 + 6) (by omega) (by omega) hf
                                                                  · replace hf := m_if0 hf c892
                                                                    refine r_sub [] rfl ?_
                                                                    refine r_wid (k' := 381133) (n' := 2300798) (by omega) (by omega) ?_
                                                                    exact J102 S882 hf
                                                              · replace hf := m_if0 hf c886
                                                                refine r_sub [] rfl ?_
                                                                refine r_wid (k' := 381133) (n' := 2300798) (by omega) (by omega) ?_
                                                                exact J104 S882 hf
                                                            · replace hf := m_if0 hf c870
                                                              by_cases c895 : v139 = Int32.ofNat 27
                                                              · replace hf := m_if1 hf c895
                                                                refine r_tsw (N := 0) (t := 1847) (v := 27) C dL_law_45 c895 (by decide) (by decide) rfl (by decide) ?_
                                                                refine r_aload_n (q := 1848) C 1 dL_law_1847 rfl rfl ?_
                                                                refine r_aload_n (q := 1849) C 0 dL_law_1848 rfl rfl ?_
                                                                refine r_iload (q := 1851) C 5 dL_law_1849 rfl rfl ?_
                                                                refine r_iconst (q := 1852) (v := (1 : Int32)) C dL_law_1851 (by decide) rfl ?_
                                                                refine r_iadd (q := 1853) C dL_law_1852 rfl ?_
                                                                obtain ⟨v896, e897, hf⟩ := m_lt_of hf
                                                                refine r_nm e897 ?_
                                                                obtain ⟨g898, hf⟩ := m_gd_of hf
                                                                refine r_sld (q := 1854) C T g898 dL_law_1853 rfl ?_
                                                                refine r_aload_n (q := 1855) C 0 dL_law_1854 rfl rfl ?_
                                                                refine r_iload (q := 1857) C 5 dL_law_1855 rfl rfl ?_
                                                                refine r_iconst (q := 1858) (v := (2 : Int32)) C dL_law_1857 (by decide) rfl ?_
                                                                refine r_iadd (q := 1859) C dL_law_1858 rfl ?_
                                                                obtain ⟨v899, e900, hf⟩ := m_lt_of hf
                                                                refine r_nm e900 ?_
                                                                obtain ⟨g901, hf⟩ := m_gd_of hf
                                                                refine r_sld (q := 1860) C T g901 dL_law_1859 rfl ?_
                                                                refine r_aload_n (q := 1861) C 3 dL_law_1860 rfl rfl ?_
                                                                obtain ⟨v903, S902, h904, hf⟩ := m_bw_of hf
                                                                refine x_callW (q := 1864) (st1 := [.int v903]) C (c_L_humidityIn hl h904) rfl w_842 w_843 w_1 w_844 hd_L_humidityIn rfl rfl rfl ⟨(Nat.le_of_ble_eq_true rfl), (Nat.le_of_ble_eq_true rfl)⟩ (Nat.le_of_ble_eq_true rfl) ⟨(Nat.le_trans (show kk131 + 2 ≤ 400000 by omega) rmC), (Nat.le_trans (show nn132 + 12 ≤ 2400000 by omega) rmS)⟩ dL_law_1861 rfl rfl rfl ?_
                                                                refine r_istore (q := 1866) (L' := [(6, .int v903), (0, .ref b9), (1, .ref a1), (2, .ref a2), (3, .ref a3), (4, .ref a4), (5, .int v129)]) C dL_law_1864 rfl (by decide) rfl ?_
                                                                refine r_aload_n (q := 1867) C 3 dL_law_1866 rfl rfl ?_
                                                                refine r_aload_n (q := 1868) C 1 dL_law_1867 rfl rfl ?_
                                                                refine r_iload (q := 1870) C 6 dL_law_1868 rfl rfl ?_
                                                                refine r_iconst (q := 1871) (v := (1 : Int32)) C dL_law_1870 (by decide) rfl ?_
                                                                refine r_iadd (q := 1872) C dL_law_1871 rfl ?_
                                                                obtain ⟨v905, e906, hf⟩ := m_lt_of hf
                                                                refine r_nm e906 ?_
                                                                obtain ⟨g907, hf⟩ := m_gd_of hf
                                                                refine r_sld (q := 1873) C T g907 dL_law_1872 rfl ?_
                                                                refine r_aload_n (q := 1874) C 1 dL_law_1873 rfl rfl ?_
                                                                refine r_iload (q := 1876) C 6 dL_law_1874 rfl rfl ?_
                                                                refine r_iconst (q := 1877) (v := (2 : Int32)) C dL_law_1876 (by decide) rfl ?_
                                                                refine r_iadd (q := 1878) C dL_law_1877 rfl ?_
                                                                obtain ⟨v908, e909, hf⟩ := m_lt_of hf
                                                                refine r_nm e909 ?_
                                                                obtain ⟨g910, hf⟩ := m_gd_of hf
                                                                refine r_sld (q := 1879) C T g910 dL_law_1878 rfl ?_
                                                                obtain ⟨g911, hf⟩ := m_gd_of hf
                                                                obtain ⟨v914, S913, h912, hf⟩ := m_bw_of hf
                                                                refine r_callV (mc := 0) (ms := 0) (q := 1882) (st1 := [.int v914]) C (c_X9_humidityIn hl h912) rfl w_1264 w_1265 w_1266 w_11 w_1267 hd_X9_humidityIn rfl (by decide) g911 rfl rfl rfl ⟨(Nat.le_of_ble_eq_true rfl), (Nat.le_of_ble_eq_true rfl)⟩ (Nat.le_of_ble_eq_true rfl) ⟨(Nat.le_trans (show kk131 + 2 ≤ 400000 by omega) rmC), (Nat.le_trans (show nn132 + 12 ≤ 2400000 by omega) rmS)⟩ dL_law_1879 rfl rfl ?_
                                                                refine r_istore (q := 1884) (L' := [(7, .int v914), (6, .int v903), (0, .ref b9), (1, .ref a1), (2, .ref a2), (3, .ref a3), (4, .ref a4), (5, .int v129)]) C dL_law_1882 rfl (by decide) rfl ?_
                                                                refine r_aload_n (q := 1885) C 4 dL_law_1884 rfl rfl ?_
                                                                obtain ⟨v916, h915, hf⟩ := m_b1_of hf
                                                                refine r_callV (mc := 0) (ms := 0) (q := 1888) (st1 := [.int v916]) C (c_X9_thrown hl h915) rfl w_1016 w_1017 w_1018 w_11 w_1019 hd_X9_thrown rfl (by decide) g911 rfl rfl rfl ⟨(Nat.le_of_ble_eq_true rfl), (Nat.le_of_ble_eq_true rfl)⟩ (Nat.le_of_ble_eq_true rfl) ⟨(Nat.le_trans (show kk131 + 2 ≤ 400000 by omega) rmC), (Nat.le_trans (show nn132 + 12 ≤ 2400000 by omega) rmS)⟩ dL_law_1885 rfl rfl ?_
                                                                refine r_iload (q := 1890) C 1 dL_law_1888 rfl rfl ?_
                                                                refine r_icmp_eq (t := 1895) (q := 1893) C dL_law_1890 (by decide) rfl (fun c917 => ?_) (fun c917 => ?_)
                                                                · replace hf := m_if1 hf c917
                                                                  refine r_iload (q := 1897) C 1 dL_law_1895 rfl rfl ?_
                                                                  refine r_if_ne (t := 1912) (q := 1900) C dL_law_1897 (by decide) rfl (fun c918 => ?_) (fun c918 => ?_)
                                                                  · replace hf := m_if1 hf c918
                                                                    refine r_goto (t := 2259) C dL_law_1912 (by decide) ?_
                                                                    obtain ⟨v919, e920, hf⟩ := m_lt_of hf
                                                                    refine r_iinc (q := 2262) (v := v919) (L' := [(5, .int v919), (7, .int v914), (6, .int v903), (0, .ref b9), (1, .ref a1), (2, .ref a2), (3, .ref a3), (4, .ref a4)]) C 7 dL_law_2259 rfl (by rw [e920]; rfl) rfl (by decide) rfl ?_
                                                                    refine r_goto (t := 28) C dL_law_2262 (by decide) ?_
                                                                    refine r_sub [3, 4, 5, 6, 7, 0] rfl ?_
                                                                    exact ih134 v919 S913 (kk131 + 2) (nn132 + 12) (by omega) (by omega) hf
                                                                  · replace hf := m_if0 hf (fun z => z c918)
                                                                    refine r_aload_n (q := 1901) C 5 dL_law_1900 rfl rfl ?_
                                                                    refine r_iconst (q := 1902) (v := (0 : Int32)) C dL_law_1901 (by decide) rfl ?_
                                                                    obtain ⟨g921, hf⟩ := m_gd_of hf
                                                                    obtain ⟨g922, hf⟩ := m_gd_of hf
                                                                    refine r_lald (q := 1903) C dL_law_1902 ⟨g921, g922⟩ rfl ?_
                                                                    refine r_iload (q := 1905) C 0 dL_law_1903 rfl rfl ?_
                                                                    refine r_i2l (q := 1906) C dL_law_1905 rfl ?_
                                                                    refine r_lcmp (q := 1907) C dL_law_1906 rfl ?_
                                                                    refine r_if_eq (t := 1912) (q := 1910) C dL_law_1907 (by decide) rfl (fun c923 => ?_) (fun c923 => ?_)
                                                                    · replace hf := m_if1 hf c923
                                                                      refine r_goto (t := 2259) C dL_law_1912 (by decide) ?_
                                                                      obtain ⟨v924, e925, hf⟩ := m_lt_of hf
                                                                      refine r_iinc (q := 2262) (v := v924) (L' := [(5, .int v924), (7, .int v914), (6, .int v903), (0, .ref b9), (1, .ref a1), (2, .ref a2), (3, .ref a3), (4, .ref a4)]) C 7 dL_law_2259 rfl (by rw [e925]; rfl) rfl (by decide) rfl ?_
                                                                      refine r_goto (t := 28) C dL_law_2262 (by decide) ?_
                                                                      refine r_sub [3, 4, 5, 6, 7, 0] rfl ?_
                                                                      exact ih134 v924 S913 (kk131 + 2) (nn132 + 12) (by omega) (by omega) hf
                                                                    · replace hf := m_if0 hf c923
                                                                      refine r_sub [] rfl ?_
                                                                      refine r_wid (k' := 381133) (n' := 2300798) (by omega) (by omega) ?_
                                                                      exact J106 S913 hf
                                                                · replace hf := m_if0 hf c917
                                                                  refine r_sub [] rfl ?_
                                                                  refine r_wid (k' := 381133) (n' := 2300798) (by omega) (by omega) ?_
                                                                  exact J108 S913 hf
                                                              · replace hf := m_if0 hf c895
                                                                by_cases c926 : v139 = Int32.ofNat 28
                                                                · replace hf := m_if1 hf c926
                                                                  refine r_tsw (N := 0) (t := 1915) (v := 28) C dL_law_45 c926 (by decide) (by decide) rfl (by decide) ?_
                                                                  refine r_aload_n (q := 1916) C 1 dL_law_1915 rfl rfl ?_
                                                                  refine r_aload_n (q := 1917) C 0 dL_law_1916 rfl rfl ?_
                                                                  refine r_iload (q := 1919) C 5 dL_law_1917 rfl rfl ?_
                                                                  refine r_iconst (q := 1920) (v := (1 : Int32)) C dL_law_1919 (by decide) rfl ?_
                                                                  refine r_iadd (q := 1921) C dL_law_1920 rfl ?_
                                                                  obtain ⟨v927, e928, hf⟩ := m_lt_of hf
                                                                  refine r_nm e928 ?_
                                                                  obtain ⟨g929, hf⟩ := m_gd_of hf
                                                                  refine r_sld (q := 1922) C T g929 dL_law_1921 rfl ?_
                                                                  refine r_aload_n (q := 1923) C 3 dL_law_1922 rfl rfl ?_
                                                                  obtain ⟨v931, S930, h932, hf⟩ := m_bw_of hf
                                                                  refine x_callW (q := 1926) (st1 := [.int v931]) C (c_L_unsafeIn hl h932) rfl w_851 w_852 w_1 w_853 hd_L_unsafeIn rfl rfl rfl ⟨(Nat.le_of_ble_eq_true rfl), (Nat.le_of_ble_eq_true rfl)⟩ (Nat.le_of_ble_eq_true rfl) ⟨(Nat.le_trans (show kk131 + 1 ≤ 400000 by omega) rmC), (Nat.le_trans (show nn132 + 6 ≤ 2400000 by omega) rmS)⟩ dL_law_1923 rfl rfl rfl ?_
                                                                  refine r_istore (q := 1928) (L' := [(6, .int v931), (0, .ref b9), (1, .ref a1), (2, .ref a2), (3, .ref a3), (4, .ref a4), (5, .int v129)]) C dL_law_1926 rfl (by decide) rfl ?_
                                                                  refine r_aload_n (q := 1929) C 3 dL_law_1928 rfl rfl ?_
                                                                  refine r_aload_n (q := 1930) C 1 dL_law_1929 rfl rfl ?_
                                                                  refine r_iload (q := 1932) C 6 dL_law_1930 rfl rfl ?_
                                                                  refine r_iconst (q := 1933) (v := (1 : Int32)) C dL_law_1932 (by decide) rfl ?_
                                                                  refine r_iadd (q := 1934) C dL_law_1933 rfl ?_
                                                                  obtain ⟨v933, e934, hf⟩ := m_lt_of hf
                                                                  refine r_nm e934 ?_
                                                                  obtain ⟨g935, hf⟩ := m_gd_of hf
                                                                  refine r_sld (q := 1935) C T g935 dL_law_1934 rfl ?_
                                                                  obtain ⟨g936, hf⟩ := m_gd_of hf
                                                                  obtain ⟨v939, S938, h937, hf⟩ := m_bw_of hf
                                                                  refine r_callV (mc := 0) (ms := 0) (q := 1938) (st1 := [.int v939]) C (c_X9_unsafeIn hl h937) rfl w_1268 w_1269 w_1270 w_11 w_1271 hd_X9_unsafeIn rfl (by decide) g936 rfl rfl rfl ⟨(Nat.le_of_ble_eq_true rfl), (Nat.le_of_ble_eq_true rfl)⟩ (Nat.le_of_ble_eq_true rfl) ⟨(Nat.le_trans (show kk131 + 1 ≤ 400000 by omega) rmC), (Nat.le_trans (show nn132 + 6 ≤ 2400000 by omega) rmS)⟩ dL_law_1935 rfl rfl ?_
                                                                  refine r_istore (q := 1940) (L' := [(7, .int v939), (6, .int v931), (0, .ref b9), (1, .ref a1), (2, .ref a2), (3, .ref a3), (4, .ref a4), (5, .int v129)]) C dL_law_1938 rfl (by decide) rfl ?_
                                                                  refine r_aload_n (q := 1941) C 4 dL_law_1940 rfl rfl ?_
                                                                  obtain ⟨v941, h940, hf⟩ := m_b1_of hf
                                                                  refine r_callV (mc := 0) (ms := 0) (q := 1944) (st1 := [.int v941]) C (c_X9_thrown hl h940) rfl w_1016 w_1017 w_1018 w_11 w_1019 hd_X9_thrown rfl (by decide) g936 rfl rfl rfl ⟨(Nat.le_of_ble_eq_true rfl), (Nat.le_of_ble_eq_true rfl)⟩ (Nat.le_of_ble_eq_true rfl) ⟨(Nat.le_trans (show kk131 + 1 ≤ 400000 by omega) rmC), (Nat.le_trans (show nn132 + 6 ≤ 2400000 by omega) rmS)⟩ dL_law_1941 rfl rfl ?_
                                                                  refine r_iload (q := 1946) C 1 dL_law_1944 rfl rfl ?_
                                                                  refine r_icmp_eq (t := 1951) (q := 1949) C dL_law_1946 (by decide) rfl (fun c942 => ?_) (fun c942 => ?_)
                                                                  · replace hf := m_if1 hf c942
                                                                    refine r_iload (q := 1953) C 1 dL_law_1951 rfl rfl ?_
                                                                    refine r_if_ne (t := 1968) (q := 1956) C dL_law_1953 (by decide) rfl (fun c943 => ?_) (fun c943 => ?_)
                                                                    · replace hf := m_if1 hf c943
                                                                      refine r_goto (t := 2259) C dL_law_1968 (by decide) ?_
                                                                      obtain ⟨v944, e945, hf⟩ := m_lt_of hf
                                                                      refine r_iinc (q := 2262) (v := v944) (L' := [(5, .int v944), (7, .int v939), (6, .int v931), (0, .ref b9), (1, .ref a1), (2, .ref a2), (3, .ref a3), (4, .ref a4)]) C 7 dL_law_2259 rfl (by rw [e945]; rfl) rfl (by decide) rfl ?_
                                                                      refine r_goto (t := 28) C dL_law_2262 (by decide) ?_
                                                                      refine r_sub [3, 4, 5, 6, 7, 0] rfl ?_
                                                                      exact ih134 v944 S938 (kk131 + 1) (nn132 + 6) (by omega) (by omega) hf
                                                                    · replace hf := m_if0 hf (fun z => z c943)
                                                                      refine r_aload_n (q := 1957) C 5 dL_law_1956 rfl rfl ?_
                                                                      refine r_iconst (q := 1958) (v := (0 : Int32)) C dL_law_1957 (by decide) rfl ?_
                                                                      obtain ⟨g946, hf⟩ := m_gd_of hf
                                                                      obtain ⟨g947, hf⟩ := m_gd_of hf
                                                                      refine r_lald (q := 1959) C dL_law_1958 ⟨g946, g947⟩ rfl ?_
                                                                      refine r_iload (q := 1961) C 0 dL_law_1959 rfl rfl ?_
                                                                      refine r_i2l (q := 1962) C dL_law_1961 rfl ?_
                                                                      refine r_lcmp (q := 1963) C dL_law_1962 rfl ?_
                                                                      refine r_if_eq (t := 1968) (q := 1966) C dL_law_1963 (by decide) rfl (fun c948 => ?_) (fun c948 => ?_)
                                                                      · replace hf := m_if1 hf c948
                                                                        refine r_goto (t := 2259) C dL_law_1968 (by decide) ?_
                                                                        obtain ⟨v949, e950, hf⟩ := m_lt_of hf
                                                                        refine r_iinc (q := 2262) (v := v949) (L' := [(5, .int v949), (7, .int v939), (6, .int v931), (0, .ref b9), (1, .ref a1), (2, .ref a2), (3, .ref a3), (4, .ref a4)]) C 7 dL_law_2259 rfl (by rw [e950]; rfl) rfl (by decide) rfl ?_
                                                                        refine r_goto (t := 28) C dL_law_2262 (by decide) ?_
                                                                        refine r_sub [3, 4, 5, 6, 7, 0] rfl ?_
                                                                        exact ih134 v949 S938 (kk131 + 1) (nn132 + 6) (by omega) (by omega) hf
                                                                      · replace hf := m_if0 hf c948
                                                                        refine r_sub [] rfl ?_
                                                                        refine r_wid (k' := 381133) (n' := 2300798) (by omega) (by omega) ?_
                                                                        exact J110 S938 hf
                                                                  · replace hf := m_if0 hf c942
                                                                    refine r_sub [] rfl ?_
                                                                    refine r_wid (k' := 381133) (n' := 2300798) (by omega) (by omega) ?_
                                                                    exact J112 S938 hf
                                                                · replace hf := m_if0 hf c926
                                                                  by_cases c951 : v139 = Int32.ofNat 29
                                                                  · replace hf := m_if1 hf c951
                                                                    refine r_tsw (N := 0) (t := 1971) (v := 29) C dL_law_45 c951 (by decide) (by decide) rfl (by decide) ?_
                                                                    refine r_aload_n (q := 1972) C 1 dL_law_1971 rfl rfl ?_
                                                                    refine r_aload_n (q := 1973) C 0 dL_law_1972 rfl rfl ?_
                                                                    refine r_iload (q := 1975) C 5 dL_law_1973 rfl rfl ?_
                                                                    refine r_iconst (q := 1976) (v := (1 : Int32)) C dL_law_1975 (by decide) rfl ?_
                                                                    refine r_iadd (q := 1977) C dL_law_1976 rfl ?_
                                                                    obtain ⟨v952, e953, hf⟩ := m_lt_of hf
                                                                    refine r_nm e953 ?_
                                                                    obtain ⟨g954, hf⟩ := m_gd_of hf
                                                                    refine r_sld (q := 1978) C T g954 dL_law_1977 rfl ?_
                                                                    refine r_aload_n (q := 1979) C 3 dL_law_1978 rfl rfl ?_
                                                                    obtain ⟨v956, S955, h957, hf⟩ := m_bw_of hf
                                                                    refine x_callW (q := 1982) (st1 := [.int v956]) C (c_L_restOf hl h957) rfl w_859 w_860 w_1 w_861 hd_L_restOf rfl rfl rfl ⟨(Nat.le_of_ble_eq_true rfl), (Nat.le_of_ble_eq_true rfl)⟩ (Nat.le_of_ble_eq_true rfl) ⟨(Nat.le_trans (show kk131 + 2 ≤ 400000 by omega) rmC), (Nat.le_trans (show nn132 + 12 ≤ 2400000 by omega) rmS)⟩ dL_law_1979 rfl rfl rfl ?_
                                                                    refine r_istore (q := 1984) (L' := [(6, .int v956), (0, .ref b9), (1, .ref a1), (2, .ref a2), (3, .ref a3), (4, .ref a4), (5, .int v129)]) C dL_law_1982 rfl (by decide) rfl ?_
                                                                    refine r_aload_n (q := 1985) C 3 dL_law_1984 rfl rfl ?_
                                                                    refine r_aload_n (q := 1986) C 1 dL_law_1985 rfl rfl ?_
                                                                    refine r_iload (q := 1988) C 6 dL_law_1986 rfl rfl ?_
                                                                    refine r_iconst (q := 1989) (v := (1 : Int32)) C dL_law_1988 (by decide) rfl ?_
                                                                    refine r_iadd (q := 1990) C dL_law_1989 rfl ?_
                                                                    obtain ⟨v958, e959, hf⟩ := m_lt_of hf
                                                                    refine r_nm e959 ?_
                                                                    obtain ⟨g960, hf⟩ := m_gd_of hf
                                                                    refine r_sld (q := 1991) C T g960 dL_law_1990 rfl ?_
                                                                    obtain ⟨g961, hf⟩ := m_gd_of hf
                                                                    obtain ⟨v964, S963, h962, hf⟩ := m_bw_of hf
                                                                    refine r_callV (mc := 0) (ms := 0) (q := 1994) (st1 := [.int v964]) C (c_X9_restOf hl h962) rfl w_1272 w_1273 w_1274 w_11 w_1275 hd_X9_restOf rfl (by decide) g961 rfl rfl rfl ⟨(Nat.le_of_ble_eq_true rfl), (Nat.le_of_ble_eq_true rfl)⟩ (Nat.le_of_ble_eq_true rfl) ⟨(Nat.le_trans (show kk131 + 2 ≤ 400000 by omega) rmC), (Nat.le_trans (show nn132 + 12 ≤ 2400000 by omega) rmS)⟩ dL_law_1991 rfl rfl ?_
                                                                    refine r_istore (q := 1996) (L' := [(7, .int v964), (6, .int v956), (0, .ref b9), (1, .ref a1), (2, .ref a2), (3, .ref a3), (4, .ref a4), (5, .int v129)]) C dL_law_1994 rfl (by decide) rfl ?_
                                                                    refine r_aload_n (q := 1997) C 4 dL_law_1996 rfl rfl ?_
                                                                    obtain ⟨v966, h965, hf⟩ := m_b1_of hf
                                                                    refine r_callV (mc := 0) (ms := 0) (q := 2000) (st1 := [.int v966]) C (c_X9_thrown hl h965) rfl w_1016 w_1017 w_1018 w_11 w_1019 hd_X9_thrown rfl (by decide) g961 rfl rfl rfl ⟨(Nat.le_of_ble_eq_true rfl), (Nat.le_of_ble_eq_true rfl)⟩ (Nat.le_of_ble_eq_true rfl) ⟨(Nat.le_trans (show kk131 + 2 ≤ 400000 by omega) rmC), (Nat.le_trans (show nn132 + 12 ≤ 2400000 by omega) rmS)⟩ dL_law_1997 rfl rfl ?_
                                                                    refine r_iload (q := 2002) C 1 dL_law_2000 rfl rfl ?_
                                                                    refine r_icmp_eq (t := 2007) (q := 2005) C dL_law_2002 (by decide) rfl (fun c967 => ?_) (fun c967 => ?_)
                                                                    · replace hf := m_if1 hf c967
                                                                      refine r_iload (q := 2009) C 1 dL_law_2007 rfl rfl ?_
                                                                      refine r_if_ne (t := 2024) (q := 2012) C dL_law_2009 (by decide) rfl (fun c968 => ?_) (fun c968 => ?_)
                                                                      · replace hf := m_if1 hf c968
                                                                        refine r_goto (t := 2259) C dL_law_2024 (by decide) ?_
                                                                        obtain ⟨v969, e970, hf⟩ := m_lt_of hf
                                                                        refine r_iinc (q := 2262) (v := v969) (L' := [(5, .int v969), (7, .int v964), (6, .int v956), (0, .ref b9), (1, .ref a1), (2, .ref a2), (3, .ref a3), (4, .ref a4)]) C 7 dL_law_2259 rfl (by rw [e970]; rfl) rfl (by decide) rfl ?_
                                                                        refine r_goto (t := 28) C dL_law_2262 (by decide) ?_
                                                                        refine r_sub [3, 4, 5, 6, 7, 0] rfl ?_
                                                                        exact ih134 v969 S963 (kk131 + 2) (nn132 + 12) (by omega) (by omega) hf
                                                                      · replace hf := m_if0 hf (fun z => z c968)
                                                                        refine r_aload_n (q := 2013) C 5 dL_law_2012 rfl rfl ?_
                                                                        refine r_iconst (q := 2014) (v := (0 : Int32)) C dL_law_2013 (by decide) rfl ?_
                                                                        obtain ⟨g971, hf⟩ := m_gd_of hf
                                                                        obtain ⟨g972, hf⟩ := m_gd_of hf
                                                                        refine r_lald (q := 2015) C dL_law_2014 ⟨g971, g972⟩ rfl ?_
                                                                        refine r_iload (q := 2017) C 0 dL_law_2015 rfl rfl ?_
                                                                        refine r_i2l (q := 2018) C dL_law_2017 rfl ?_
                                                                        refine r_lcmp (q := 2019) C dL_law_2018 rfl ?_
                                                                        refine r_if_eq (t := 2024) (q := 2022) C dL_law_2019 (by decide) rfl (fun c973 => ?_) (fun c973 => ?_)
                                                                        · replace hf := m_if1 hf c973
                                                                          refine r_goto (t := 2259) C dL_law_2024 (by decide) ?_
                                                                          obtain ⟨v974, e975, hf⟩ := m_lt_of hf
                                                                          refine r_iinc (q := 2262) (v := v974) (L' := [(5, .int v974), (7, .int v964), (6, .int v956), (0, .ref b9), (1, .ref a1), (2, .ref a2), (3, .ref a3), (4, .ref a4)]) C 7 dL_law_2259 rfl (by rw [e975]; rfl) rfl (by decide) rfl ?_
                                                                          refine r_goto (t := 28) C dL_law_2262 (by decide) ?_
                                                                          refine r_sub [3, 4, 5, 6, 7, 0] rfl ?_
                                                                          exact ih134 v974 S963 (kk131 + 2) (nn132 + 12) (by omega) (by omega) hf
                                                                        · replace hf := m_if0 hf c973
                                                                          refine r_sub [] rfl ?_
                                                                          refine r_wid (k' := 381133) (n' := 2300798) (by omega) (by omega) ?_
                                                                          exact J114 S963 hf
                                                                    · replace hf := m_if0 hf c967
                                                                      refine r_sub [] rfl ?_
                                                                      refine r_wid (k' := 381133) (n' := 2300798) (by omega) (by omega) ?_
                                                                      exact J116 S963 hf
                                                                  · replace hf := m_if0 hf c951
                                                                    by_cases c976 : v139 = Int32.ofNat 30
                                                                    · replace hf := m_if1 hf c976
                                                                      refine r_tsw (N := 0) (t := 2027) (v := 30) C dL_law_45 c976 (by decide) (by decide) rfl (by decide) ?_
                                                                      refine r_aload_n (q := 2028) C 1 dL_law_2027 rfl rfl ?_
                                                                      refine r_aload_n (q := 2029) C 0 dL_law_2028 rfl rfl ?_
                                                                      refine r_iload (q := 2031) C 5 dL_law_2029 rfl rfl ?_
                                                                      refine r_iconst (q := 2032) (v := (1 : Int32)) C dL_law_2031 (by decide) rfl ?_
                                                                      refine r_iadd (q := 2033) C dL_law_2032 rfl ?_
                                                                      obtain ⟨v977, e978, hf⟩ := m_lt_of hf
                                                                      refine r_nm e978 ?_
                                                                      obtain ⟨g979, hf⟩ := m_gd_of hf
                                                                      refine r_sld (q := 2034) C T g979 dL_law_2033 rfl ?_
                                                                      refine r_aload_n (q := 2035) C 0 dL_law_2034 rfl rfl ?_
                                                                      refine r_iload (q := 2037) C 5 dL_law_2035 rfl rfl ?_
                                                                      refine r_iconst (q := 2038) (v := (2 : Int32)) C dL_law_2037 (by decide) rfl ?_
                                                                      refine r_iadd (q := 2039) C dL_law_2038 rfl ?_
                                                                      obtain ⟨v980, e981, hf⟩ := m_lt_of hf
                                                                      refine r_nm e981 ?_
                                                                      obtain ⟨g982, hf⟩ := m_gd_of hf
                                                                      refine r_sld (q := 2040) C T g982 dL_law_2039 rfl ?_
                                                                      refine r_aload_n (q := 2041) C 0 dL_law_2040 rfl rfl ?_
                                                                      refine r_iload (q := 2043) C 5 dL_law_2041 rfl rfl ?_
                                                                      refine r_iconst (q := 2044) (v := (3 : Int32)) C dL_law_2043 (by decide) rfl ?_
                                                                      refine r_iadd (q := 2045) C dL_law_2044 rfl ?_
                                                                      obtain ⟨v983, e984, hf⟩ := m_lt_of hf
                                                                      refine r_nm e984 ?_
                                                                      obtain ⟨g985, hf⟩ := m_gd_of hf
                                                                      refine r_sld (q := 2046) C T g985 dL_law_2045 rfl ?_
                                                                      refine r_aload_n (q := 2047) C 0 dL_law_2046 rfl rfl ?_
                                                                      refine r_iload (q := 2049) C 5 dL_law_2047 rfl rfl ?_
                                                                      refine r_iconst (q := 2050) (v := (4 : Int32)) C dL_law_2049 (by decide) rfl ?_
                                                                      refine r_iadd (q := 2051) C dL_law_2050 rfl ?_
                                                                      obtain ⟨v986, e987, hf⟩ := m_lt_of hf
                                                                      refine r_nm e987 ?_
                                                                      obtain ⟨g988, hf⟩ := m_gd_of hf
                                                                      refine r_sld (q := 2052) C T g988 dL_law_2051 rfl ?_
                                                                      refine r_aload_n (q := 2053) C 3 dL_law_2052 rfl rfl ?_
                                                                      obtain ⟨v990, S989, h991, hf⟩ := m_bw_of hf
                                                                      refine x_callW (q := 2056) (st1 := [.int v990]) C (c_L_massFor hl h991) rfl w_876 w_877 w_1 w_878 hd_L_massFor rfl rfl rfl ⟨(Nat.le_of_ble_eq_true rfl), (Nat.le_of_ble_eq_true rfl)⟩ (Nat.le_of_ble_eq_true rfl) ⟨(Nat.le_trans (show kk131 + 5 ≤ 400000 by omega) rmC), (Nat.le_trans (show nn132 + 30 ≤ 2400000 by omega) rmS)⟩ dL_law_2053 rfl rfl rfl ?_
                                                                      refine r_istore (q := 2058) (L' := [(6, .int v990), (0, .ref b9), (1, .ref a1), (2, .ref a2), (3, .ref a3), (4, .ref a4), (5, .int v129)]) C dL_law_2056 rfl (by decide) rfl ?_
                                                                      refine r_aload_n (q := 2059) C 3 dL_law_2058 rfl rfl ?_
                                                                      refine r_aload_n (q := 2060) C 1 dL_law_2059 rfl rfl ?_
                                                                      refine r_iload (q := 2062) C 6 dL_law_2060 rfl rfl ?_
                                                                      refine r_iconst (q := 2063) (v := (1 : Int32)) C dL_law_2062 (by decide) rfl ?_
                                                                      refine r_iadd (q := 2064) C dL_law_2063 rfl ?_
                                                                      obtain ⟨v992, e993, hf⟩ := m_lt_of hf
                                                                      refine r_nm e993 ?_
                                                                      obtain ⟨g994, hf⟩ := m_gd_of hf
                                                                      refine r_sld (q := 2065) C T g994 dL_law_2064 rfl ?_
                                                                      refine r_aload_n (q := 2066) C 1 dL_law_2065 rfl rfl ?_
                                                                      refine r_iload (q := 2068) C 6 dL_law_2066 rfl rfl ?_
                                                                      refine r_iconst (q := 2069) (v := (2 : Int32)) C dL_law_2068 (by decide) rfl ?_
                                                                      refine r_iadd (q := 2070) C dL_law_2069 rfl ?_
                                                                      obtain ⟨v995, e996, hf⟩ := m_lt_of hf
                                                                      refine r_nm e996 ?_
                                                                      obtain ⟨g997, hf⟩ := m_gd_of hf
                                                                      refine r_sld (q := 2071) C T g997 dL_law_2070 rfl ?_
                                                                      refine r_aload_n (q := 2072) C 1 dL_law_2071 rfl rfl ?_
                                                                      refine r_iload (q := 2074) C 6 dL_law_2072 rfl rfl ?_
                                                                      refine r_iconst (q := 2075) (v := (3 : Int32)) C dL_law_2074 (by decide) rfl ?_
                                                                      refine r_iadd (q := 2076) C dL_law_2075 rfl ?_
                                                                      obtain ⟨v998, e999, hf⟩ := m_lt_of hf
                                                                      refine r_nm e999 ?_
                                                                      obtain ⟨g1000, hf⟩ := m_gd_of hf
                                                                      refine r_sld (q := 2077) C T g1000 dL_law_2076 rfl ?_
                                                                      refine r_aload_n (q := 2078) C 1 dL_law_2077 rfl rfl ?_
                                                                      refine r_iload (q := 2080) C 6 dL_law_2078 rfl rfl ?_
                                                                      refine r_iconst (q := 2081) (v := (4 : Int32)) C dL_law_2080 (by decide) rfl ?_
                                                                      refine r_iadd (q := 2082) C dL_law_2081 rfl ?_
                                                                      obtain ⟨v1001, e1002, hf⟩ := m_lt_of hf
                                                                      refine r_nm e1002 ?_
                                                                      obtain ⟨g1003, hf⟩ := m_gd_of hf
                                                                      refine r_sld (q := 2083) C T g1003 dL_law_2082 rfl ?_
                                                                      obtain ⟨g1004, hf⟩ := m_gd_of hf
                                                                      obtain ⟨v1007, S1006, h1005, hf⟩ := m_bw_of hf
                                                                      refine r_callV (mc := 0) (ms := 0) (q := 2086) (st1 := [.int v1007]) C (c_X9_massFor hl h1005) rfl w_1276 w_1277 w_1278 w_11 w_1279 hd_X9_massFor rfl (by decide) g1004 rfl rfl rfl ⟨(Nat.le_of_ble_eq_true rfl), (Nat.le_of_ble_eq_true rfl)⟩ (Nat.le_of_ble_eq_true rfl) ⟨(Nat.le_trans (show kk131 + 5 ≤ 400000 by omega) rmC), (Nat.le_trans (show nn132 + 30 ≤ 2400000 by omega) rmS)⟩ dL_law_2083 rfl rfl ?_
                                                                      refine r_istore (q := 2088) (L' := [(7, .int v1007), (6, .int v990), (0, .ref b9), (1, .ref a1), (2, .ref a2), (3, .ref a3), (4, .ref a4), (5, .int v129)]) C dL_law_2086 rfl (by decide) rfl ?_
                                                                      refine r_aload_n (q := 2089) C 4 dL_law_2088 rfl rfl ?_
                                                                      obtain ⟨v1009, h1008, hf⟩ := m_b1_of hf
                                                                      refine r_callV (mc := 0) (ms := 0) (q := 2092) (st1 := [.int v1009]) C (c_X9_thrown hl h1008) rfl w_1016 w_1017 w_1018 w_11 w_1019 hd_X9_thrown rfl (by decide) g1004 rfl rfl rfl ⟨(Nat.le_of_ble_eq_true rfl), (Nat.le_of_ble_eq_true rfl)⟩ (Nat.le_of_ble_eq_true rfl) ⟨(Nat.le_trans (show kk131 + 5 ≤ 400000 by omega) rmC), (Nat.le_trans (show nn132 + 30 ≤ 2400000 by omega) rmS)⟩ dL_law_2089 rfl rfl ?_
                                                                      refine r_iload (q := 2094) C 1 dL_law_2092 rfl rfl ?_
                                                                      refine r_icmp_eq (t := 2099) (q := 2097) C dL_law_2094 (by decide) rfl (fun c1010 => ?_) (fun c1010 => ?_)
                                                                      · replace hf := m_if1 hf c1010
                                                                        refine r_iload (q := 2101) C 1 dL_law_2099 rfl rfl ?_
                                                                        refine r_if_ne (t := 2116) (q := 2104) C dL_law_2101 (by decide) rfl (fun c1011 => ?_) (fun c1011 => ?_)
                                                                        · replace hf := m_if1 hf c1011
                                                                          refine r_goto (t := 2259) C dL_law_2116 (by decide) ?_
                                                                          obtain ⟨v1012, e1013, hf⟩ := m_lt_of hf
                                                                          refine r_iinc (q := 2262) (v := v1012) (L' := [(5, .int v1012), (7, .int v1007), (6, .int v990), (0, .ref b9), (1, .ref a1), (2, .ref a2), (3, .ref a3), (4, .ref a4)]) C 7 dL_law_2259 rfl (by rw [e1013]; rfl) rfl (by decide) rfl ?_
                                                                          refine r_goto (t := 28) C dL_law_2262 (by decide) ?_
                                                                          refine r_sub [3, 4, 5, 6, 7, 0] rfl ?_
                                                                          exact ih134 v1012 S1006 (kk131 + 5) (nn132 + 30) (by omega) (by omega) hf
                                                                        · replace hf := m_if0 hf (fun z => z c1011)
                                                                          refine r_aload_n (q := 2105) C 5 dL_law_2104 rfl rfl ?_
                                                                          refine r_iconst (q := 2106) (v := (0 : Int32)) C dL_law_2105 (by decide) rfl ?_
                                                                          obtain ⟨g1014, hf⟩ := m_gd_of hf
                                                                          obtain ⟨g1015, hf⟩ := m_gd_of hf
                                                                          refine r_lald (q := 2107) C dL_law_2106 ⟨g1014, g1015⟩ rfl ?_
                                                                          refine r_iload (q := 2109) C 0 dL_law_2107 rfl rfl ?_
                                                                          refine r_i2l (q := 2110) C dL_law_2109 rfl ?_
                                                                          refine r_lcmp (q := 2111) C dL_law_2110 rfl ?_
                                                                          refine r_if_eq (t := 2116) (q := 2114) C dL_law_2111 (by decide) rfl (fun c1016 => ?_) (fun c1016 => ?_)
                                                                          · replace hf := m_if1 hf c1016
                                                                            refine r_goto (t := 2259) C dL_law_2116 (by decide) ?_
                                                                            obtain ⟨v1017, e1018, hf⟩ := m_lt_of hf
                                                                            refine r_iinc (q := 2262) (v := v1017) (L' := [(5, .int v1017), (7, .int v1007), (6, .int v990), (0, .ref b9), (1, .ref a1), (2, .ref a2), (3, .ref a3), (4, .ref a4)]) C 7 dL_law_2259 rfl (by rw [e1018]; rfl) rfl (by decide) rfl ?_
                                                                            refine r_goto (t := 28) C dL_law_2262 (by decide) ?_
                                                                            refine r_sub [3, 4, 5, 6, 7, 0] rfl ?_
                                                                            exact ih134 v1017 S1006 (kk131 + 5) (nn132 + 30) (by omega) (by omega) hf
                                                                          · replace hf := m_if0 hf c1016
                                                                            refine r_sub [] rfl ?_
                                                                            refine r_wid (k' := 381133) (n' := 2300798) (by omega) (by omega) ?_
                                                                            exact J118 S1006 hf
                                                                      · replace hf := m_if0 hf c1010
                                                                        refine r_sub [] rfl ?_
                                                                        refine r_wid (k' := 381133) (n' := 2300798) (by omega) (by omega) ?_
                                                                        exact J120 S1006 hf
                                                                    · replace hf := m_if0 hf c976
                                                                      by_cases c1019 : v139 = Int32.ofNat 31
                                                                      · replace hf := m_if1 hf c1019
                                                                        refine r_tsw (N := 0) (t := 2119) (v := 31) C dL_law_45 c1019 (by decide) (by decide) rfl (by decide) ?_
                                                                        refine r_aload_n (q := 2120) C 1 dL_law_2119 rfl rfl ?_
                                                                        refine r_aload_n (q := 2121) C 0 dL_law_2120 rfl rfl ?_
                                                                        refine r_iload (q := 2123) C 5 dL_law_2121 rfl rfl ?_
                                                                        refine r_iconst (q := 2124) (v := (1 : Int32)) C dL_law_2123 (by decide) rfl ?_
                                                                        refine r_iadd (q := 2125) C dL_law_2124 rfl ?_
                                                                        obtain ⟨v1020, e1021, hf⟩ := m_lt_of hf
                                                                        refine r_nm e1021 ?_
                                                                        obtain ⟨g1022, hf⟩ := m_gd_of hf
                                                                        refine r_sld (q := 2126) C T g1022 dL_law_2125 rfl ?_
                                                                        refine r_aload_n (q := 2127) C 0 dL_law_2126 rfl rfl ?_
                                                                        refine r_iload (q := 2129) C 5 dL_law_2127 rfl rfl ?_
                                                                        refine r_iconst (q := 2130) (v := (2 : Int32)) C dL_law_2129 (by decide) rfl ?_
                                                                        refine r_iadd (q := 2131) C dL_law_2130 rfl ?_
                                                                        obtain ⟨v1023, e1024, hf⟩ := m_lt_of hf
                                                                        refine r_nm e1024 ?_
                                                                        obtain ⟨g1025, hf⟩ := m_gd_of hf
                                                                        refine r_sld (q := 2132) C T g1025 dL_law_2131 rfl ?_
                                                                        refine r_aload_n (q := 2133) C 3 dL_law_2132 rfl rfl ?_
                                                                        obtain ⟨v1027, S1026, h1028, hf⟩ := m_bw_of hf
                                                                        refine x_callW (q := 2136) (st1 := [.int v1027]) C (c_L_bestFor hl h1028) rfl w_889 w_890 w_1 w_891 hd_L_bestFor rfl rfl rfl ⟨(Nat.le_of_ble_eq_true rfl), (Nat.le_of_ble_eq_true rfl)⟩ (Nat.le_of_ble_eq_true rfl) ⟨(Nat.le_trans (show kk131 + 3 ≤ 400000 by omega) rmC), (Nat.le_trans (show nn132 + 18 ≤ 2400000 by omega) rmS)⟩ dL_law_2133 rfl rfl rfl ?_
                                                                        refine r_istore (q := 2138) (L' := [(6, .int v1027), (0, .ref b9), (1, .ref a1), (2, .ref a2), (3, .ref a3), (4, .ref a4), (5, .int v129)]) C dL_law_2136 rfl (by decide) rfl ?_
                                                                        refine r_aload_n (q := 2139) C 3 dL_law_2138 rfl rfl ?_
                                                                        refine r_aload_n (q := 2140) C 1 dL_law_2139 rfl rfl ?_
                                                                        refine r_iload (q := 2142) C 6 dL_law_2140 rfl rfl ?_
                                                                        refine r_iconst (q := 2143) (v := (1 : Int32)) C dL_law_2142 (by decide) rfl ?_
                                                                        refine r_iadd (q := 2144) C dL_law_2143 rfl ?_
                                                                        obtain ⟨v1029, e1030, hf⟩ := m_lt_of hf
                                                                        refine r_nm e1030 ?_
                                                                        obtain ⟨g1031, hf⟩ := m_gd_of hf
                                                                        refine r_sld (q := 2145) C T g1031 dL_law_2144 rfl ?_
                                                                        refine r_aload_n (q := 2146) C 1 dL_law_2145 rfl rfl ?_
                                                                        refine r_iload (q := 2148) C 6 dL_law_2146 rfl rfl ?_
                                                                        refine r_iconst (q := 2149) (v := (2 : Int32)) C dL_law_2148 (by decide) rfl ?_
                                                                        refine r_iadd (q := 2150) C dL_law_2149 rfl ?_
                                                                        obtain ⟨v1032, e1033, hf⟩ := m_lt_of hf
                                                                        refine r_nm e1033 ?_
                                                                        obtain ⟨g1034, hf⟩ := m_gd_of hf
                                                                        refine r_sld (q := 2151) C T g1034 dL_law_2150 rfl ?_
                                                                        obtain ⟨g1035, hf⟩ := m_gd_of hf
                                                                        obtain ⟨v1038, S1037, h1036, hf⟩ := m_bw_of hf
                                                                        refine r_callV (mc := 0) (ms := 0) (q := 2154) (st1 := [.int v1038]) C (c_X9_bestFor hl h1036) rfl w_1280 w_1281 w_1282 w_11 w_1283 hd_X9_bestFor rfl (by decide) g1035 rfl rfl rfl ⟨(Nat.le_of_ble_eq_true rfl), (Nat.le_of_ble_eq_true rfl)⟩ (Nat.le_of_ble_eq_true rfl) ⟨(Nat.le_trans (show kk131 + 3 ≤ 400000 by omega) rmC), (Nat.le_trans (show nn132 + 18 ≤ 2400000 by omega) rmS)⟩ dL_law_2151 rfl rfl ?_
                                                                        refine r_istore (q := 2156) (L' := [(7, .int v1038), (6, .int v1027), (0, .ref b9), (1, .ref a1), (2, .ref a2), (3, .ref a3), (4, .ref a4), (5, .int v129)]) C dL_law_2154 rfl (by decide) rfl ?_
                                                                        refine r_aload_n (q := 2157) C 4 dL_law_2156 rfl rfl ?_
                                                                        obtain ⟨v1040, h1039, hf⟩ := m_b1_of hf
                                                                        refine r_callV (mc := 0) (ms := 0) (q := 2160) (st1 := [.int v1040]) C (c_X9_thrown hl h1039) rfl w_1016 w_1017 w_1018 w_11 w_1019 hd_X9_thrown rfl (by decide) g1035 rfl rfl rfl ⟨(Nat.le_of_ble_eq_true rfl), (Nat.le_of_ble_eq_true rfl)⟩ (Nat.le_of_ble_eq_true rfl) ⟨(Nat.le_trans (show kk131 + 3 ≤ 400000 by omega) rmC), (Nat.le_trans (show nn132 + 18 ≤ 2400000 by omega) rmS)⟩ dL_law_2157 rfl rfl ?_
                                                                        refine r_iload (q := 2162) C 1 dL_law_2160 rfl rfl ?_
                                                                        refine r_icmp_eq (t := 2167) (q := 2165) C dL_law_2162 (by decide) rfl (fun c1041 => ?_) (fun c1041 => ?_)
                                                                        · replace hf := m_if1 hf c1041
                                                                          refine r_iload (q := 2169) C 1 dL_law_2167 rfl rfl ?_
                                                                          refine r_if_ne (t := 2184) (q := 2172) C dL_law_2169 (by decide) rfl (fun c1042 => ?_) (fun c1042 => ?_)
                                                                          · replace hf := m_if1 hf c1042
                                                                            refine r_goto (t := 2259) C dL_law_2184 (by decide) ?_
                                                                            obtain ⟨v1043, e1044, hf⟩ := m_lt_of hf
                                                                            refine r_iinc (q := 2262) (v := v1043) (L' := [(5, .int v1043), (7, .int v1038), (6, .int v1027), (0, .ref b9), (1, .ref a1), (2, .ref a2), (3, .ref a3), (4, .ref a4)]) C 7 dL_law_2259 rfl (by rw [e1044]; rfl) rfl (by decide) rfl ?_
                                                                            refine r_goto (t := 28) C dL_law_2262 (by decide) ?_
                                                                            refine r_sub [3, 4, 5, 6, 7, 0] rfl ?_
                                                                            exact ih134 v1043 S1037 (kk131 + 3) (nn132 + 18) (by omega) (by omega) hf
                                                                          · replace hf := m_if0 hf (fun z => z c1042)
                                                                            refine r_aload_n (q := 2173) C 5 dL_law_2172 rfl rfl ?_
                                                                            refine r_iconst (q := 2174) (v := (0 : Int32)) C dL_law_2173 (by decide) rfl ?_
                                                                            obtain ⟨g1045, hf⟩ := m_gd_of hf
                                                                            obtain ⟨g1046, hf⟩ := m_gd_of hf
                                                                            refine r_lald (q := 2175) C dL_law_2174 ⟨g1045, g1046⟩ rfl ?_
                                                                            refine r_iload (q := 2177) C 0 dL_law_2175 rfl rfl ?_
                                                                            refine r_i2l (q := 2178) C dL_law_2177 rfl ?_
                                                                            refine r_lcmp (q := 2179) C dL_law_2178 rfl ?_
                                                                            refine r_if_eq (t := 2184) (q := 2182) C dL_law_2179 (by decide) rfl (fun c1047 => ?_) (fun c1047 => ?_)
                                                                            · replace hf := m_if1 hf c1047
                                                                              refine r_goto (t := 2259) C dL_law_2184 (by decide) ?_
                                                                              obtain ⟨v1048, e1049, hf⟩ := m_lt_of hf
                                                                              refine r_iinc (q := 2262) (v := v1048) (L' := [(5, .int v1048), (7, .int v1038), (6, .int v1027), (0, .ref b9), (1, .ref a1), (2, .ref a2), (3, .ref a3), (4, .ref a4)]) C 7 dL_law_2259 rfl (by rw [e1049]; rfl) rfl (by decide) rfl ?_
                                                                              refine r_goto (t := 28) C dL_law_2262 (by decide) ?_
                                                                              refine r_sub [3, 4, 5, 6, 7, 0] rfl ?_
                                                                              exact ih134 v1048 S1037 (kk131 + 3) (nn132 + 18) (by omega) (by omega) hf
                                                                            · replace hf := m_if0 hf c1047
                                                                              refine r_sub [] rfl ?_
                                                                              refine r_wid (k' := 381133) (n' := 2300798) (by omega) (by omega) ?_
                                                                              exact J122 S1037 hf
                                                                        · replace hf := m_if0 hf c1041
                                                                          refine r_sub [] rfl ?_
                                                                          refine r_wid (k' := 381133) (n' := 2300798) (by omega) (by omega) ?_
                                                                          exact J124 S1037 hf
                                                                      · replace hf := m_if0 hf c1019
                                                                        by_cases c1050 : v139 = Int32.ofNat 32
                                                                        · replace hf := m_if1 hf c1050
                                                                          refine r_tsw (N := 0) (t := 2187) (v := 32) C dL_law_45 c1050 (by decide) (by decide) rfl (by decide) ?_
                                                                          refine r_aload_n (q := 2188) C 1 dL_law_2187 rfl rfl ?_
                                                                          refine r_aload_n (q := 2189) C 0 dL_law_2188 rfl rfl ?_
                                                                          refine r_iload (q := 2191) C 5 dL_law_2189 rfl rfl ?_
                                                                          refine r_iconst (q := 2192) (v := (1 : Int32)) C dL_law_2191 (by decide) rfl ?_
                                                                          refine r_iadd (q := 2193) C dL_law_2192 rfl ?_
                                                                          obtain ⟨v1051, e1052, hf⟩ := m_lt_of hf
                                                                          refine r_nm e1052 ?_
                                                                          obtain ⟨g1053, hf⟩ := m_gd_of hf
                                                                          refine r_sld (q := 2194) C T g1053 dL_law_2193 rfl ?_
                                                                          obtain ⟨v1055, S1054, h1056, hf⟩ := m_bw_of hf
                                                                          refine x_callW (q := 2197) (st1 := [.int v1055]) C (c_L_save hl h1056) rfl w_896 w_897 w_1 w_898 hd_L_save rfl rfl rfl ⟨(Nat.le_of_ble_eq_true rfl), (Nat.le_of_ble_eq_true rfl)⟩ (Nat.le_of_ble_eq_true rfl) ⟨(Nat.le_trans (show kk131 + 1 ≤ 400000 by omega) rmC), (Nat.le_trans (show nn132 + 6 ≤ 2400000 by omega) rmS)⟩ dL_law_2194 rfl rfl rfl ?_
                                                                          refine r_istore (q := 2199) (L' := [(6, .int v1055), (0, .ref b9), (1, .ref a1), (2, .ref a2), (3, .ref a3), (4, .ref a4), (5, .int v129)]) C dL_law_2197 rfl (by decide) rfl ?_
                                                                          refine r_aload_n (q := 2200) C 3 dL_law_2199 rfl rfl ?_
                                                                          refine r_aload_n (q := 2201) C 1 dL_law_2200 rfl rfl ?_
                                                                          refine r_iload (q := 2203) C 6 dL_law_2201 rfl rfl ?_
                                                                          refine r_iconst (q := 2204) (v := (1 : Int32)) C dL_law_2203 (by decide) rfl ?_
                                                                          refine r_iadd (q := 2205) C dL_law_2204 rfl ?_
                                                                          obtain ⟨v1057, e1058, hf⟩ := m_lt_of hf
                                                                          refine r_nm e1058 ?_
                                                                          obtain ⟨g1059, hf⟩ := m_gd_of hf
                                                                          refine r_sld (q := 2206) C T g1059 dL_law_2205 rfl ?_
                                                                          obtain ⟨g1060, hf⟩ := m_gd_of hf
                                                                          obtain ⟨_u, S1062, h1061, hf⟩ := m_bw_of hf
                                                                          refine r_callV (mc := 0) (ms := 0) (q := 2209) (st1 := []) C (c_X9_save hl h1061) rfl w_1284 w_1285 w_1286 w_11 w_1287 hd_X9_save rfl (by decide) g1060 rfl rfl rfl ⟨(Nat.le_of_ble_eq_true rfl), (Nat.le_of_ble_eq_true rfl)⟩ (Nat.le_of_ble_eq_true rfl) ⟨(Nat.le_trans (show kk131 + 1 ≤ 400000 by omega) rmC), (Nat.le_trans (show nn132 + 6 ≤ 2400000 by omega) rmS)⟩ dL_law_2206 rfl rfl ?_
                                                                          refine r_aload_n (q := 2210) C 3 dL_law_2209 rfl rfl ?_
                                                                          obtain ⟨v1064, h1063, hf⟩ := m_b1_of hf
                                                                          refine r_callV (mc := 0) (ms := 0) (q := 2213) (st1 := [.int v1064]) C (c_X9_thrown hl h1063) rfl w_1016 w_1017 w_1018 w_11 w_1019 hd_X9_thrown rfl (by decide) g1060 rfl rfl rfl ⟨(Nat.le_of_ble_eq_true rfl), (Nat.le_of_ble_eq_true rfl)⟩ (Nat.le_of_ble_eq_true rfl) ⟨(Nat.le_trans (show kk131 + 1 ≤ 400000 by omega) rmC), (Nat.le_trans (show nn132 + 6 ≤ 2400000 by omega) rmS)⟩ dL_law_2210 rfl rfl ?_
                                                                          refine r_iload (q := 2215) C 0 dL_law_2213 rfl rfl ?_
                                                                          refine r_icmp_eq (t := 2220) (q := 2218) C dL_law_2215 (by decide) rfl (fun c1065 => ?_) (fun c1065 => ?_)
                                                                          · replace hf := m_if1 hf c1065
                                                                            refine r_goto (t := 2259) C dL_law_2220 (by decide) ?_
                                                                            obtain ⟨v1066, e1067, hf⟩ := m_lt_of hf
                                                                            refine r_iinc (q := 2262) (v := v1066) (L' := [(5, .int v1066), (6, .int v1055), (0, .ref b9), (1, .ref a1), (2, .ref a2), (3, .ref a3), (4, .ref a4)]) C 6 dL_law_2259 rfl (by rw [e1067]; rfl) rfl (by decide) rfl ?_
                                                                            refine r_goto (t := 28) C dL_law_2262 (by decide) ?_
                                                                            refine r_sub [2, 3, 4, 5, 6, 0] rfl ?_
                                                                            exact ih134 v1066 S1062 (kk131 + 1) (nn132 + 6) (by omega) (by omega) hf
                                                                          · replace hf := m_if0 hf c1065
                                                                            refine r_sub [] rfl ?_
                                                                            refine r_wid (k' := 381133) (n' := 2300798) (by omega) (by omega) ?_
                                                                            exact J126 S1062 hf
                                                                        · replace hf := m_if0 hf c1050
                                                                          by_cases c1068 : v139 = Int32.ofNat 33
                                                                          · replace hf := m_if1 hf c1068
                                                                            refine r_tsw (N := 0) (t := 2223) (v := 33) C dL_law_45 c1068 (by decide) (by decide) rfl (by decide) ?_
                                                                            refine r_aload_n (q := 2224) C 1 dL_law_2223 rfl rfl ?_
                                                                            refine r_aload_n (q := 2225) C 0 dL_law_2224 rfl rfl ?_
                                                                            refine r_iload (q := 2227) C 5 dL_law_2225 rfl rfl ?_
                                                                            refine r_iconst (q := 2228) (v := (1 : Int32)) C dL_law_2227 (by decide) rfl ?_
                                                                            refine r_iadd (q := 2229) C dL_law_2228 rfl ?_
                                                                            obtain ⟨v1069, e1070, hf⟩ := m_lt_of hf
                                                                            refine r_nm e1070 ?_
                                                                            obtain ⟨g1071, hf⟩ := m_gd_of hf
                                                                            refine r_sld (q := 2230) C T g1071 dL_law_2229 rfl ?_
                                                                            obtain ⟨v1073, S1072, h1074, hf⟩ := m_bw_of hf
                                                                            refine x_callW (q := 2233) (st1 := [.int v1073]) C (c_L_restore hl h1074) rfl w_918 w_919 w_1 w_920 hd_L_restore rfl rfl rfl ⟨(Nat.le_of_ble_eq_true rfl), (Nat.le_of_ble_eq_true rfl)⟩ (Nat.le_of_ble_eq_true rfl) ⟨(Nat.le_trans (show kk131 + 2 ≤ 400000 by omega) rmC), (Nat.le_trans (show nn132 + 12 ≤ 2400000 by omega) rmS)⟩ dL_law_2230 rfl rfl rfl ?_
                                                                            refine r_istore (q := 2235) (L' := [(6, .int v1073), (0, .ref b9), (1, .ref a1), (2, .ref a2), (3, .ref a3), (4, .ref a4), (5, .int v129)]) C dL_law_2233 rfl (by decide) rfl ?_
                                                                            refine r_aload_n (q := 2236) C 3 dL_law_2235 rfl rfl ?_
                                                                            refine r_aload_n (q := 2237) C 1 dL_law_2236 rfl rfl ?_
                                                                            refine r_iload (q := 2239) C 6 dL_law_2237 rfl rfl ?_
                                                                            refine r_iconst (q := 2240) (v := (1 : Int32)) C dL_law_2239 (by decide) rfl ?_
                                                                            refine r_iadd (q := 2241) C dL_law_2240 rfl ?_
                                                                            obtain ⟨v1075, e1076, hf⟩ := m_lt_of hf
                                                                            refine r_nm e1076 ?_
                                                                            obtain ⟨g1077, hf⟩ := m_gd_of hf
                                                                            refine r_sld (q := 2242) C T g1077 dL_law_2241 rfl ?_
                                                                            obtain ⟨g1078, hf⟩ := m_gd_of hf
                                                                            obtain ⟨_u, S1080, h1079, hf⟩ := m_bw_of hf
                                                                            refine r_callV (mc := 0) (ms := 0) (q := 2245) (st1 := []) C (c_X9_restore hl h1079) rfl w_1288 w_1289 w_1290 w_11 w_1291 hd_X9_restore rfl (by decide) g1078 rfl rfl rfl ⟨(Nat.le_of_ble_eq_true rfl), (Nat.le_of_ble_eq_true rfl)⟩ (Nat.le_of_ble_eq_true rfl) ⟨(Nat.le_trans (show kk131 + 2 ≤ 400000 by omega) rmC), (Nat.le_trans (show nn132 + 12 ≤ 2400000 by omega) rmS)⟩ dL_law_2242 rfl rfl ?_
                                                                            refine r_aload_n (q := 2246) C 3 dL_law_2245 rfl rfl ?_
                                                                            obtain ⟨v1082, h1081, hf⟩ := m_b1_of hf
                                                                            refine r_callV (mc := 0) (ms := 0) (q := 2249) (st1 := [.int v1082]) C (c_X9_thrown hl h1081) rfl w_1016 w_1017 w_1018 w_11 w_1019 hd_X9_thrown rfl (by decide) g1078 rfl rfl rfl ⟨(Nat.le_of_ble_eq_true rfl), (Nat.le_of_ble_eq_true rfl)⟩ (Nat.le_of_ble_eq_true rfl) ⟨(Nat.le_trans (show kk131 + 2 ≤ 400000 by omega) rmC), (Nat.le_trans (show nn132 + 12 ≤ 2400000 by omega) rmS)⟩ dL_law_2246 rfl rfl ?_
                                                                            refine r_iload (q := 2251) C 0 dL_law_2249 rfl rfl ?_
                                                                            refine r_icmp_eq (t := 2256) (q := 2254) C dL_law_2251 (by decide) rfl (fun c1083 => ?_) (fun c1083 => ?_)
                                                                            · replace hf := m_if1 hf c1083
                                                                              refine r_goto (t := 2259) C dL_law_2256 (by decide) ?_
                                                                              obtain ⟨v1084, e1085, hf⟩ := m_lt_of hf
                                                                              refine r_iinc (q := 2262) (v := v1084) (L' := [(5, .int v1084), (6, .int v1073), (0, .ref b9), (1, .ref a1), (2, .ref a2), (3, .ref a3), (4, .ref a4)]) C 6 dL_law_2259 rfl (by rw [e1085]; rfl) rfl (by decide) rfl ?_
                                                                              refine r_goto (t := 28) C dL_law_2262 (by decide) ?_
                                                                              refine r_sub [2, 3, 4, 5, 6, 0] rfl ?_
                                                                              exact ih134 v1084 S1080 (kk131 + 2) (nn132 + 12) (by omega) (by omega) hf
                                                                            · replace hf := m_if0 hf c1083
                                                                              refine r_sub [] rfl ?_
                                                                              refine r_wid (k' := 381133) (n' := 2300798) (by omega) (by omega) ?_
                                                                              exact J128 S1080 hf
                                                                          · replace hf := m_if0 hf c1068
                                                                            refine r_tswO (t := 2259) (N := 33) C dL_law_45 rfl (m_tS (m_tS (m_tS (m_tS (m_tS (m_tS (m_tS (m_tS (m_tS (m_tS (m_tS (m_tS (m_tS (m_tS (m_tS (m_tS (m_tS (m_tS (m_tS (m_tS (m_tS (m_tS (m_tS (m_tS (m_tS (m_tS (m_tS (m_tS (m_tS (m_tS (m_tS (m_tS (m_tS (m_tS m_t0 c141) c190) c215) c234) c245) c256) c281) c306) c331) c362) c387) c418) c449) c480) c505) c536) c567) c598) c628) c653) c690) c715) c758) c783) c814) c845) c870) c895) c926) c951) c976) c1019) c1050) c1068) (by decide) ?_
                                                                            obtain ⟨v1086, e1087, hf⟩ := m_lt_of hf
                                                                            refine r_iinc (q := 2262) (v := v1086) (L' := [(5, .int v1086), (0, .ref b9), (1, .ref a1), (2, .ref a2), (3, .ref a3), (4, .ref a4)]) C 5 dL_law_2259 rfl (by rw [e1087]; rfl) rfl (by decide) rfl ?_
                                                                            refine r_goto (t := 28) C dL_law_2262 (by decide) ?_
                                                                            refine r_sub [1, 2, 3, 4, 5, 0] rfl ?_
                                                                            exact ih134 v1086 S130 kk131 nn132 (by omega) (by omega) hf
  exact LL136 513 p5 S 1000 20000 (by omega) (by omega) hf
