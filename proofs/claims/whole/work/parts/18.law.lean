def f_loop (L : Nat) (xs : Nat → Int32) (x0 : Int32) (w : Wd) : Option Int32 := wl2 (fun (x1 : Int32) (w2 : Wd) k3 => (if ((Int32.ofNat L) - (4 : Int32)) < x1 then some (1 : Int32) else ix x1 L (fun j6 => lt (xs j6) (fun x7 => lt (x7 &&& (63 : Int32)) (fun x9 => jn (fun (w11 : Wd) => lt (x1 + (4 : Int32)) (fun x13 => k3 x13 w11)) (fun j12 => (if x9.toInt = 0 then ix (x1 + (1 : Int32)) L (fun j16 => lt (xs j16) (fun x17 => ix (x1 + (2 : Int32)) L (fun j19 => lt (xs j19) (fun x20 => c2 (f_X7_grid 0 x17 x20 w2) (fun v23 w24 => ix (x1 + (1 : Int32)) L (fun j25 => lt (xs j25) (fun x26 => ix (x1 + (2 : Int32)) L (fun j28 => lt (xs j28) (fun x29 => c2 (f_X8_grid 139 x26 x29 w24) (fun v32 w33 => (if v23 = v32 then j12 w33 else some (0 : Int32)))))))))))) else (if x9.toInt = 1 then ix (x1 + (1 : Int32)) L (fun j36 => lt (xs j36) (fun x37 => ix (x1 + (2 : Int32)) L (fun j39 => lt (xs j39) (fun x40 => ix (x1 + (3 : Int32)) L (fun j42 => lt (xs j42) (fun x43 => c2 (f_X7_put 0 x37 x40 x43 w2) (fun v46 w47 => ix (x1 + (1 : Int32)) L (fun j48 => lt (xs j48) (fun x49 => ix (x1 + (2 : Int32)) L (fun j51 => lt (xs j51) (fun x52 => ix (x1 + (3 : Int32)) L (fun j54 => lt (xs j54) (fun x55 => c2 (f_X8_put 139 x49 x52 x55 w47) (fun v58 w59 => (if v46 = v58 then j12 w59 else some (0 : Int32)))))))))))))))) else (if x9.toInt = 2 then ix (x1 + (1 : Int32)) L (fun j62 => lt (xs j62) (fun x63 => ix (x1 + (2 : Int32)) L (fun j65 => lt (xs j65) (fun x66 => c1 (f_X7_cell 0 x63 x66 w2) (fun v69 => ix (x1 + (1 : Int32)) L (fun j70 => lt (xs j70) (fun x71 => ix (x1 + (2 : Int32)) L (fun j73 => lt (xs j73) (fun x74 => c1 (f_X8_cell 139 x71 x74 w2) (fun v77 => (if v69 = v77 then j12 w2 else some (0 : Int32)))))))))))) else (if x9.toInt = 3 then ix (x1 + (1 : Int32)) L (fun j80 => lt (xs j80) (fun x81 => c2 (f_X7_rule 0 x81 w2) (fun v84 w85 => ix (x1 + (1 : Int32)) L (fun j86 => lt (xs j86) (fun x87 => c2 (f_X8_rule 139 x87 w85) (fun v90 w91 => (if v84 = v90 then j12 w91 else some (0 : Int32)))))))) else (if x9.toInt = 4 then ix (x1 + (1 : Int32)) L (fun j94 => lt (xs j94) (fun x95 => c2 (f_X7_word 0 x95 w2) (fun v98 w99 => ix (x1 + (1 : Int32)) L (fun j100 => lt (xs j100) (fun x101 => c2 (f_X8_word 139 x101 w99) (fun v104 w105 => (if v98 = v104 then j12 w105 else some (0 : Int32)))))))) else (if x9.toInt = 5 then c1 (f_X7_spelled 0 w2) (fun v109 => c1 (f_X8_spelled 139 w2) (fun v111 => (if v109 = v111 then j12 w2 else some (0 : Int32)))) else (if x9.toInt = 6 then ix (x1 + (1 : Int32)) L (fun j114 => lt (xs j114) (fun x115 => c2 (f_X7_turn 0 x115 w2) (fun v118 w119 => ix (x1 + (1 : Int32)) L (fun j120 => lt (xs j120) (fun x121 => c2 (f_X8_turn 139 x121 w119) (fun v124 w125 => (if v118 = v124 then j12 w125 else some (0 : Int32)))))))) else (if x9.toInt = 7 then ix (x1 + (1 : Int32)) L (fun j128 => lt (xs j128) (fun x129 => ix (x1 + (2 : Int32)) L (fun j131 => lt (xs j131) (fun x132 => ix (x1 + (3 : Int32)) L (fun j134 => lt (xs j134) (fun x135 => c2 (f_X7_part 0 x129 x132 x135 w2) (fun v138 w139 => ix (x1 + (1 : Int32)) L (fun j140 => lt (xs j140) (fun x141 => ix (x1 + (2 : Int32)) L (fun j143 => lt (xs j143) (fun x144 => ix (x1 + (3 : Int32)) L (fun j146 => lt (xs j146) (fun x147 => c2 (f_X8_part 139 x141 x144 x147 w139) (fun v150 w151 => (if v138 = v150 then j12 w151 else some (0 : Int32)))))))))))))))) else (if x9.toInt = 8 then ix (x1 + (1 : Int32)) L (fun j154 => lt (xs j154) (fun x155 => ix (x1 + (2 : Int32)) L (fun j157 => lt (xs j157) (fun x158 => ix (x1 + (3 : Int32)) L (fun j160 => lt (xs j160) (fun x161 => c2 (f_X7_shape 0 x155 x158 x161 w2) (fun v164 w165 => ix (x1 + (1 : Int32)) L (fun j166 => lt (xs j166) (fun x167 => ix (x1 + (2 : Int32)) L (fun j169 => lt (xs j169) (fun x170 => ix (x1 + (3 : Int32)) L (fun j172 => lt (xs j172) (fun x173 => c2 (f_X8_shape 139 x167 x170 x173 w165) (fun v176 w177 => (if v164 = v176 then j12 w177 else some (0 : Int32)))))))))))))))) else (if x9.toInt = 9 then ix (x1 + (1 : Int32)) L (fun j180 => lt (xs j180) (fun x181 => ix (x1 + (2 : Int32)) L (fun j183 => lt (xs j183) (fun x184 => ix (x1 + (3 : Int32)) L (fun j186 => lt (xs j186) (fun x187 => c2 (f_X7_turned 0 x181 x184 x187 w2) (fun v190 w191 => ix (x1 + (1 : Int32)) L (fun j192 => lt (xs j192) (fun x193 => ix (x1 + (2 : Int32)) L (fun j195 => lt (xs j195) (fun x196 => ix (x1 + (3 : Int32)) L (fun j198 => lt (xs j198) (fun x199 => c2 (f_X8_turned 139 x193 x196 x199 w191) (fun v202 w203 => (if v190 = v202 then j12 w203 else some (0 : Int32)))))))))))))))) else (if x9.toInt = 10 then ix (x1 + (1 : Int32)) L (fun j206 => lt (xs j206) (fun x207 => ix (x1 + (2 : Int32)) L (fun j209 => lt (xs j209) (fun x210 => c2 (f_X7_standard 0 x207 x210 w2) (fun v213 w214 => ix (x1 + (1 : Int32)) L (fun j215 => lt (xs j215) (fun x216 => ix (x1 + (2 : Int32)) L (fun j218 => lt (xs j218) (fun x219 => c2 (f_X8_standard 139 x216 x219 w214) (fun v222 w223 => (if (lg_cmp v213 v222) = 0 then j12 w223 else some (0 : Int32)))))))))))) else (if x9.toInt = 11 then ix (x1 + (1 : Int32)) L (fun j226 => lt (xs j226) (fun x227 => ix (x1 + (2 : Int32)) L (fun j229 => lt (xs j229) (fun x230 => c2 (f_X7_product 0 x227 x230 w2) (fun v233 w234 => ix (x1 + (1 : Int32)) L (fun j235 => lt (xs j235) (fun x236 => ix (x1 + (2 : Int32)) L (fun j238 => lt (xs j238) (fun x239 => c2 (f_X8_product 139 x236 x239 w234) (fun v242 w243 => (if v233 = v242 then j12 w243 else some (0 : Int32)))))))))))) else (if x9.toInt = 12 then ix (x1 + (1 : Int32)) L (fun j246 => lt (xs j246) (fun x247 => ix (x1 + (2 : Int32)) L (fun j249 => lt (xs j249) (fun x250 => ix (x1 + (3 : Int32)) L (fun j252 => lt (xs j252) (fun x253 => c2 (f_X7_filling 0 x247 x250 x253 w2) (fun v256 w257 => ix (x1 + (1 : Int32)) L (fun j258 => lt (xs j258) (fun x259 => ix (x1 + (2 : Int32)) L (fun j261 => lt (xs j261) (fun x262 => ix (x1 + (3 : Int32)) L (fun j264 => lt (xs j264) (fun x265 => c2 (f_X8_filling 139 x259 x262 x265 w257) (fun v268 w269 => (if v256 = v268 then j12 w269 else some (0 : Int32)))))))))))))))) else (if x9.toInt = 13 then ix (x1 + (1 : Int32)) L (fun j272 => lt (xs j272) (fun x273 => ix (x1 + (2 : Int32)) L (fun j275 => lt (xs j275) (fun x276 => c2 (f_X7_along 0 x273 x276 w2) (fun v279 w280 => ix (x1 + (1 : Int32)) L (fun j281 => lt (xs j281) (fun x282 => ix (x1 + (2 : Int32)) L (fun j284 => lt (xs j284) (fun x285 => c2 (f_X8_along 139 x282 x285 w280) (fun v288 w289 => (if v279 = v288 then j12 w289 else some (0 : Int32)))))))))))) else (if x9.toInt = 14 then ix (x1 + (1 : Int32)) L (fun j292 => lt (xs j292) (fun x293 => c2 (f_X7_fits 0 x293 w2) (fun v296 w297 => ix (x1 + (1 : Int32)) L (fun j298 => lt (xs j298) (fun x299 => c2 (f_X8_fits 139 x299 w297) (fun v302 w303 => (if v296 = v302 then j12 w303 else some (0 : Int32)))))))) else (if x9.toInt = 15 then ix (x1 + (1 : Int32)) L (fun j306 => lt (xs j306) (fun x307 => c2 (f_X7_back 0 x307 w2) (fun v310 w311 => ix (x1 + (1 : Int32)) L (fun j312 => lt (xs j312) (fun x313 => c2 (f_X8_back 139 x313 w311) (fun v316 w317 => (if v310 = v316 then j12 w317 else some (0 : Int32)))))))) else (if x9.toInt = 16 then ix (x1 + (1 : Int32)) L (fun j320 => lt (xs j320) (fun x321 => ix (x1 + (2 : Int32)) L (fun j323 => lt (xs j323) (fun x324 => c2 (f_X7_longest 0 x321 x324 w2) (fun v327 w328 => ix (x1 + (1 : Int32)) L (fun j329 => lt (xs j329) (fun x330 => ix (x1 + (2 : Int32)) L (fun j332 => lt (xs j332) (fun x333 => c2 (f_X8_longest 139 x330 x333 w328) (fun v336 w337 => (if v327 = v336 then j12 w337 else some (0 : Int32)))))))))))) else (if x9.toInt = 17 then ix (x1 + (1 : Int32)) L (fun j340 => lt (xs j340) (fun x341 => ix (x1 + (2 : Int32)) L (fun j343 => lt (xs j343) (fun x344 => c2 (f_X7_union 0 x341 x344 w2) (fun v347 w348 => ix (x1 + (1 : Int32)) L (fun j349 => lt (xs j349) (fun x350 => ix (x1 + (2 : Int32)) L (fun j352 => lt (xs j352) (fun x353 => c2 (f_X8_union 139 x350 x353 w348) (fun v356 w357 => (if v347 = v356 then j12 w357 else some (0 : Int32)))))))))))) else (if x9.toInt = 18 then ix (x1 + (1 : Int32)) L (fun j360 => lt (xs j360) (fun x361 => c2 (f_X7_corner 0 x361 w2) (fun v364 w365 => ix (x1 + (1 : Int32)) L (fun j366 => lt (xs j366) (fun x367 => c2 (f_X8_corner 139 x367 w365) (fun v370 w371 => (if v364 = v370 then j12 w371 else some (0 : Int32)))))))) else (if x9.toInt = 19 then ix (x1 + (1 : Int32)) L (fun j374 => lt (xs j374) (fun x375 => c2 (f_X7_unlike 0 x375 w2) (fun v378 w379 => ix (x1 + (1 : Int32)) L (fun j380 => lt (xs j380) (fun x381 => c2 (f_X8_unlike 139 x381 w379) (fun v384 w385 => (if v378 = v384 then j12 w385 else some (0 : Int32)))))))) else (if x9.toInt = 20 then c2 (f_X7_undo 0 w2) (fun v389 w390 => c2 (f_X8_undo 139 w390) (fun v392 w393 => (if v389 = v392 then j12 w393 else some (0 : Int32)))) else (if x9.toInt = 21 then c2 (f_X7_again 0 w2) (fun v397 w398 => c2 (f_X8_again 139 w398) (fun v400 w401 => (if v397 = v400 then j12 w401 else some (0 : Int32)))) else (if x9.toInt = 22 then ix (x1 + (1 : Int32)) L (fun j404 => lt (xs j404) (fun x405 => ix (x1 + (2 : Int32)) L (fun j407 => lt (xs j407) (fun x408 => c2 (f_X7_feed 0 x405 x408 w2) (fun v411 w412 => ix (x1 + (1 : Int32)) L (fun j413 => lt (xs j413) (fun x414 => ix (x1 + (2 : Int32)) L (fun j416 => lt (xs j416) (fun x417 => c2 (f_X8_feed 139 x414 x417 w412) (fun v420 w421 => (if v411 = v420 then j12 w421 else some (0 : Int32)))))))))))) else (if x9.toInt = 23 then c2 (f_X7_wipe 0 w2) (fun v425 w426 => c2 (f_X8_wipe 139 w426) (fun v428 w429 => (if v425 = v428 then j12 w429 else some (0 : Int32)))) else (if x9.toInt = 24 then c2 (f_X7_read 0 w2) (fun v433 w434 => c2 (f_X8_read 139 w434) (fun v436 w437 => (if v433 = v436 then j12 w437 else some (0 : Int32)))) else (if x9.toInt = 25 then ix (x1 + (1 : Int32)) L (fun j440 => lt (xs j440) (fun x441 => ix (x1 + (2 : Int32)) L (fun j443 => lt (xs j443) (fun x444 => ix (x1 + (3 : Int32)) L (fun j446 => lt (xs j446) (fun x447 => c2 (f_X7_hold 0 x441 x444 x447 w2) (fun v450 w451 => ix (x1 + (1 : Int32)) L (fun j452 => lt (xs j452) (fun x453 => ix (x1 + (2 : Int32)) L (fun j455 => lt (xs j455) (fun x456 => ix (x1 + (3 : Int32)) L (fun j458 => lt (xs j458) (fun x459 => c2 (f_X8_hold 139 x453 x456 x459 w451) (fun v462 w463 => (if v450 = v462 then j12 w463 else some (0 : Int32)))))))))))))))) else (if x9.toInt = 26 then ix (x1 + (1 : Int32)) L (fun j466 => lt (xs j466) (fun x467 => c2 (f_X7_drop 0 x467 w2) (fun v470 w471 => ix (x1 + (1 : Int32)) L (fun j472 => lt (xs j472) (fun x473 => c2 (f_X8_drop 139 x473 w471) (fun v476 w477 => (if v470 = v476 then j12 w477 else some (0 : Int32)))))))) else (if x9.toInt = 27 then ix (x1 + (1 : Int32)) L (fun j480 => lt (xs j480) (fun x481 => ix (x1 + (2 : Int32)) L (fun j483 => lt (xs j483) (fun x484 => c1 (f_X7_taken 0 x481 x484 w2) (fun v487 => ix (x1 + (1 : Int32)) L (fun j488 => lt (xs j488) (fun x489 => ix (x1 + (2 : Int32)) L (fun j491 => lt (xs j491) (fun x492 => c1 (f_X8_taken 139 x489 x492 w2) (fun v495 => (if v487 = v495 then j12 w2 else some (0 : Int32)))))))))))) else (if x9.toInt = 28 then ix (x1 + (1 : Int32)) L (fun j498 => lt (xs j498) (fun x499 => ix (x1 + (2 : Int32)) L (fun j501 => lt (xs j501) (fun x502 => c1 (f_X7_was 0 x499 x502 w2) (fun v505 => ix (x1 + (1 : Int32)) L (fun j506 => lt (xs j506) (fun x507 => ix (x1 + (2 : Int32)) L (fun j509 => lt (xs j509) (fun x510 => c1 (f_X8_was 139 x507 x510 w2) (fun v513 => (if v505 = v513 then j12 w2 else some (0 : Int32)))))))))))) else (if x9.toInt = 29 then ix (x1 + (1 : Int32)) L (fun j516 => lt (xs j516) (fun x517 => ix (x1 + (2 : Int32)) L (fun j519 => lt (xs j519) (fun x520 => c2 (f_X7_row 0 x517 x520 w2) (fun v523 w524 => ix (x1 + (1 : Int32)) L (fun j525 => lt (xs j525) (fun x526 => ix (x1 + (2 : Int32)) L (fun j528 => lt (xs j528) (fun x529 => c2 (f_X8_row 139 x526 x529 w524) (fun v532 w533 => (if v523 = v532 then j12 w533 else some (0 : Int32)))))))))))) else (if x9.toInt = 30 then ix (x1 + (1 : Int32)) L (fun j536 => lt (xs j536) (fun x537 => ix (x1 + (2 : Int32)) L (fun j539 => lt (xs j539) (fun x540 => ix (x1 + (3 : Int32)) L (fun j542 => lt (xs j542) (fun x543 => c2 (f_X7_set 0 x537 x540 x543 w2) (fun v546 w547 => ix (x1 + (1 : Int32)) L (fun j548 => lt (xs j548) (fun x549 => ix (x1 + (2 : Int32)) L (fun j551 => lt (xs j551) (fun x552 => ix (x1 + (3 : Int32)) L (fun j554 => lt (xs j554) (fun x555 => c2 (f_X8_set 139 x549 x552 x555 w547) (fun v558 w559 => (if v546 = v558 then j12 w559 else some (0 : Int32)))))))))))))))) else (if x9.toInt = 31 then ix (x1 + (1 : Int32)) L (fun j562 => lt (xs j562) (fun x563 => ix (x1 + (2 : Int32)) L (fun j565 => lt (xs j565) (fun x566 => c1 (f_X7_get 0 x563 x566 w2) (fun v569 => ix (x1 + (1 : Int32)) L (fun j570 => lt (xs j570) (fun x571 => ix (x1 + (2 : Int32)) L (fun j573 => lt (xs j573) (fun x574 => c1 (f_X8_get 139 x571 x574 w2) (fun v577 => (if (lg_cmp v569 v577) = 0 then j12 w2 else some (0 : Int32)))))))))))) else (if x9.toInt = 32 then ix (x1 + (1 : Int32)) L (fun j580 => lt (xs j580) (fun x581 => ix (x1 + (2 : Int32)) L (fun j583 => lt (xs j583) (fun x584 => ix (x1 + (3 : Int32)) L (fun j586 => lt (xs j586) (fun x587 => c2 (f_X7_judge 0 x581 x584 x587 w2) (fun v590 w591 => ix (x1 + (1 : Int32)) L (fun j592 => lt (xs j592) (fun x593 => ix (x1 + (2 : Int32)) L (fun j595 => lt (xs j595) (fun x596 => ix (x1 + (3 : Int32)) L (fun j598 => lt (xs j598) (fun x599 => c2 (f_X8_judge 139 x593 x596 x599 w591) (fun v602 w603 => (if v590 = v602 then j12 w603 else some (0 : Int32)))))))))))))))) else (if x9.toInt = 33 then c2 (f_X7_image 0 w2) (fun v607 w608 => c2 (f_X8_image 139 w608) (fun v610 w611 => (if v607 = v610 then j12 w611 else some (0 : Int32)))) else (if x9.toInt = 34 then c2 (f_X7_restore 0 w2) (fun v615 w616 => c2 (f_X8_restore 139 w616) (fun v618 w619 => (if v615 = v618 then j12 w619 else some (0 : Int32)))) else (if x9.toInt = 35 then ix (x1 + (1 : Int32)) L (fun j622 => lt (xs j622) (fun x623 => c1 (f_X7_count 0 x623 w2) (fun v626 => ix (x1 + (1 : Int32)) L (fun j627 => lt (xs j627) (fun x628 => c1 (f_X8_count 139 x628 w2) (fun v631 => (if v626 = v631 then j12 w2 else some (0 : Int32)))))))) else j12 w2)))))))))))))))))))))))))))))))))))))))))) fu x0 w
def w00 : Wd := (fun _ _ => 0, fun _ _ => none)
def f_law (L : Nat) (xs : Nat → Int32) : Option Int32 := mk 0 (0 + 153) 7 0 (lt2 (0 + 1) (clr w00 0) (fun n1 w1 => c1 (f_X7_init 0 n1 w1) (fun w2 => if n1 + 138 ≤ 0 + 153 then lt2 (n1 + 138) w2 (fun n2 w3 => mk n2 (0 + 153) 8 0 (lt2 (n2 + 1) (clr w3 n2) (fun n3 w4 => c1 (f_X8_init n2 n3 w4) (fun w5 => if n3 + 13 ≤ 0 + 153 then lt2 (n3 + 13) w5 (fun n4 w6 => f_loop L xs 0 w6) else none)))) else none)))
set_option maxHeartbeats 4000000 in
set_option maxRecDepth 100000 in
theorem m_loop (l : Launch) {p : Program} {e : Env} {s : State} {m : MethodId} {below : List Frame} {meth : Method} {c : Code} {b L : Nat} {xs : Nat → Int32} {B : Nat} {D : DD} (X : Cx p s m #[Value.ref b] c code "GrowthGridLaw" D) (hml : c.maxLocals = 4) (hr : meth.sig.returnType = ret) (hlk : meth.locks = false) (hX : va_X b L xs s s.heap) (hbl : b < s.heap.size) (hbA : ¬ (fun q : Nat => B ≤ q) b) (hBs : B = s.heap.size) {x0 : Int32} {w : Wd} (hf : f_loop L xs x0 w = some (1 : Int32)) {H : Heap} {locs : List Loc} {ls : Array Slot} (hh : Hp B D 153 w s H locs) (hl : lv_has ls 4 [(3, .int x0), (2, .ref (B + 139)), (1, .ref (B + 0)), (0, .ref b)]) : W p l e room_1 s m #[Value.ref b] below meth c H locs (153 - 0) (2880 * (153 - 0)) (lw_Z below #[Value.ref b] s) (F0 m 18 ls []) := by
  have hx := X.1
  have hb := X.2.1
  have hg0 : 0 < 153 ∧ kd 0 = 7 := ⟨by decide, by decide⟩
  have hm0 : 139 < 153 ∧ kd 139 = 8 := ⟨by decide, by decide⟩
  unfold f_loop at hf
  refine wl2_W (P := fun (x1 : Int32) (w2 : Wd) => ∀ (H : Heap) (locs : List Loc) (ls : Array Slot), Hp B D 153 w2 s H locs → lv_has ls 4 [(0, .ref b), (1, .ref (B + 0)), (2, .ref (B + 139)), (3, .int x1)] → W p l e room_1 s m #[Value.ref b] below meth c H locs (153 - 0) (2880 * (153 - 0)) (lw_Z below #[Value.ref b] s) (F0 m 18 ls [])) hf (fun x1 w2 k3 ih4 hf  H locs ls hh hl => ?_)  _ _ _ hh (lv_sub hl [3, 2, 1, 0] rfl)
  refine lv_iload_n hx hb dL_law_18 rfl (lv_at hl 3 rfl) ?_
  refine lv_aload_n hx hb dL_law_19 rfl (lv_at hl 0 rfl) ?_
  refine va_slen hx hb hX hbl hbA hh.2 dL_law_20 ?_
  refine lv_iconst (v := (4 : Int32)) hx hb dL_law_21 (by decide) ?_
  refine lv_isub hx hb dL_law_22 ?_
  refine lv_icmp_gt (tgt := 1238) hx hb dL_law_23 (by decide) (fun hc5 => ?_) (fun hc5 => ?_)
  · have hf := if_t hc5 hf
    refine lv_iconst (v := (1 : Int32)) hx hb dL_law_1238 (by decide) ?_
    refine va_forget (fun q hq => by rw [← hBs]; exact hh.2.2.2 q hq) ?_
    refine W.widen (k := 600000) (n := 7302250) (by decide) (by decide) ?_
    exact lw_ret hx hb hr hlk dL_law_1239
  · have hf := if_f hc5 hf
    refine lv_aload_n hx hb dL_law_26 rfl (lv_at hl 0 rfl) ?_
    refine lv_iload_n hx hb dL_law_27 rfl (lv_at hl 3 rfl) ?_
    have hz := ix_e hf
    have hf := hz.2
    refine va_sld hx hb hX hbl hbA hh.2 hz.1 dL_law_28 ?_
    refine lv_topi (fun x7 e8 => ?_)
    have hf := lt_e e8 hf
    refine lv_bipush (v := (63 : Int32)) hx hb dL_law_29 (by decide) ?_
    refine lv_iand hx hb dL_law_31 ?_
    refine lv_topi (fun x9 e10 => ?_)
    have hf := lt_e e10 hf
    refine jn_W (P := fun j12 => ∀ (w11 : Wd), j12 w11 = some (1 : Int32) → ∀ (H : Heap) (locs : List Loc) (ls : Array Slot), Hp B D 153 w11 s H locs → lv_has ls 4 [(0, .ref b), (1, .ref (B + 0)), (2, .ref (B + 139)), (3, .int x1)] → W p l e room_1 s m #[Value.ref b] below meth c H locs (153 - 0) (2880 * (153 - 0)) (lw_Z below #[Value.ref b] s) (F0 m 1232 ls [])) hf (fun w11 hf  H locs ls hh hl => ?_) (fun j12 hj12 hf => ?_)
    · obtain ⟨x13, e14⟩ : ∃ y : Int32, y = (x1 + (4 : Int32)) := ⟨_, rfl⟩
      have hf := lt_e e14 hf
      refine lv_iinc (v := x13) (lv' := [(3, .int x13), (0, .ref b), (1, .ref (B + 0)), (2, .ref (B + 139))]) hx hb dL_law_1232 hl (k := 3) rfl (by rw [e14]; rfl) (by decide) rfl (fun ls hl => ?_)
      refine lv_goto (tgt := 18) hx hb dL_law_1235 (by decide) ?_
      exact ih4 _ _ hf  _ _ _ hh (lv_sub hl [1, 2, 3, 0] rfl)
    · by_cases hc15 : x9.toInt = 0
      · have hf := if_t hc15 hf
        refine lv_tableIn (off := 160) (tgt := 192) hx hb dL_law_32 (by omega) (by omega) (by rw [hc15]; rfl) (by decide) ?_
        refine lv_aload_n hx hb dL_law_192 rfl (lv_at hl 1 rfl) ?_
        refine lv_aload_n hx hb dL_law_193 rfl (lv_at hl 0 rfl) ?_
        refine lv_iload_n hx hb dL_law_194 rfl (lv_at hl 3 rfl) ?_
        refine lv_iconst (v := (1 : Int32)) hx hb dL_law_195 (by decide) ?_
        refine lv_iadd hx hb dL_law_196 ?_
        have hz := ix_e hf
        have hf := hz.2
        refine va_sld hx hb hX hbl hbA hh.2 hz.1 dL_law_197 ?_
        refine lv_topi (fun x17 e18 => ?_)
        have hf := lt_e e18 hf
        refine lv_aload_n hx hb dL_law_198 rfl (lv_at hl 0 rfl) ?_
        refine lv_iload_n hx hb dL_law_199 rfl (lv_at hl 3 rfl) ?_
        refine lv_iconst (v := (2 : Int32)) hx hb dL_law_200 (by decide) ?_
        refine lv_iadd hx hb dL_law_201 ?_
        have hz := ix_e hf
        have hf := hz.2
        refine va_sld hx hb hX hbl hbA hh.2 hz.1 dL_law_202 ?_
        refine lv_topi (fun x20 e21 => ?_)
        have hf := lt_e e21 hf
        obtain ⟨v23, w24, hc22, hf⟩ := c2_e hf
        refine q_V (w' := w24) (rest := []) X hml hh (some (.int v23)) (m_X7_grid l B D hg0 hc22) cf_X7_grid k_231 hg0 ci_7 rfl rfl hl.1 rfl (Nat.le_of_ble_eq_true rfl) ⟨Nat.le_of_ble_eq_true rfl, Nat.le_of_ble_eq_true rfl⟩ ⟨Nat.le_of_ble_eq_true rfl, Nat.le_of_ble_eq_true rfl⟩ dL_law_203 rfl (fun H locs hh => ?_)
        refine lv_aload_n hx hb dL_law_206 rfl (lv_at hl 2 rfl) ?_
        refine lv_aload_n hx hb dL_law_207 rfl (lv_at hl 0 rfl) ?_
        refine lv_iload_n hx hb dL_law_208 rfl (lv_at hl 3 rfl) ?_
        refine lv_iconst (v := (1 : Int32)) hx hb dL_law_209 (by decide) ?_
        refine lv_iadd hx hb dL_law_210 ?_
        have hz := ix_e hf
        have hf := hz.2
        refine va_sld hx hb hX hbl hbA hh.2 hz.1 dL_law_211 ?_
        refine lv_topi (fun x26 e27 => ?_)
        have hf := lt_e e27 hf
        refine lv_aload_n hx hb dL_law_212 rfl (lv_at hl 0 rfl) ?_
        refine lv_iload_n hx hb dL_law_213 rfl (lv_at hl 3 rfl) ?_
        refine lv_iconst (v := (2 : Int32)) hx hb dL_law_214 (by decide) ?_
        refine lv_iadd hx hb dL_law_215 ?_
        have hz := ix_e hf
        have hf := hz.2
        refine va_sld hx hb hX hbl hbA hh.2 hz.1 dL_law_216 ?_
        refine lv_topi (fun x29 e30 => ?_)
        have hf := lt_e e30 hf
        obtain ⟨v32, w33, hc31, hf⟩ := c2_e hf
        refine q_V (w' := w33) (rest := [.int v23]) X hml hh (some (.int v32)) (m_X8_grid l B D hm0 hc31) cf_X8_grid k_762 hm0 ci_8 rfl rfl hl.1 rfl (Nat.le_of_ble_eq_true rfl) ⟨Nat.le_of_ble_eq_true rfl, Nat.le_of_ble_eq_true rfl⟩ ⟨Nat.le_of_ble_eq_true rfl, Nat.le_of_ble_eq_true rfl⟩ dL_law_217 rfl (fun H locs hh => ?_)
        refine lv_icmp_eq (tgt := 1232) hx hb dL_law_220 (by decide) (fun hc34 => ?_) (fun hc34 => ?_)
        · have hf := if_t hc34 hf
          exact hj12 _ hf  _ _ _ hh (lv_sub hl [0, 1, 2, 3] rfl)
        · have hf := if_f hc34 hf
          refine lv_iconst (v := (0 : Int32)) hx hb dL_law_223 (by decide) ?_
          exact absurd (so_e hf) (by decide)
      · have hf := if_f hc15 hf
        by_cases hc35 : x9.toInt = 1
        · have hf := if_t hc35 hf
          refine lv_tableIn (off := 193) (tgt := 225) hx hb dL_law_32 (by omega) (by omega) (by rw [hc35]; rfl) (by decide) ?_
          refine lv_aload_n hx hb dL_law_225 rfl (lv_at hl 1 rfl) ?_
          refine lv_aload_n hx hb dL_law_226 rfl (lv_at hl 0 rfl) ?_
          refine lv_iload_n hx hb dL_law_227 rfl (lv_at hl 3 rfl) ?_
          refine lv_iconst (v := (1 : Int32)) hx hb dL_law_228 (by decide) ?_
          refine lv_iadd hx hb dL_law_229 ?_
          have hz := ix_e hf
          have hf := hz.2
          refine va_sld hx hb hX hbl hbA hh.2 hz.1 dL_law_230 ?_
          refine lv_topi (fun x37 e38 => ?_)
          have hf := lt_e e38 hf
          refine lv_aload_n hx hb dL_law_231 rfl (lv_at hl 0 rfl) ?_
          refine lv_iload_n hx hb dL_law_232 rfl (lv_at hl 3 rfl) ?_
          refine lv_iconst (v := (2 : Int32)) hx hb dL_law_233 (by decide) ?_
          refine lv_iadd hx hb dL_law_234 ?_
          have hz := ix_e hf
          have hf := hz.2
          refine va_sld hx hb hX hbl hbA hh.2 hz.1 dL_law_235 ?_
          refine lv_topi (fun x40 e41 => ?_)
          have hf := lt_e e41 hf
          refine lv_aload_n hx hb dL_law_236 rfl (lv_at hl 0 rfl) ?_
          refine lv_iload_n hx hb dL_law_237 rfl (lv_at hl 3 rfl) ?_
          refine lv_iconst (v := (3 : Int32)) hx hb dL_law_238 (by decide) ?_
          refine lv_iadd hx hb dL_law_239 ?_
          have hz := ix_e hf
          have hf := hz.2
          refine va_sld hx hb hX hbl hbA hh.2 hz.1 dL_law_240 ?_
          refine lv_topi (fun x43 e44 => ?_)
          have hf := lt_e e44 hf
          obtain ⟨v46, w47, hc45, hf⟩ := c2_e hf
          refine q_V (w' := w47) (rest := []) X hml hh (some (.int v46)) (m_X7_put l B D hg0 hc45) cf_X7_put k_258 hg0 ci_7 rfl rfl hl.1 rfl (Nat.le_of_ble_eq_true rfl) ⟨Nat.le_of_ble_eq_true rfl, Nat.le_of_ble_eq_true rfl⟩ ⟨Nat.le_of_ble_eq_true rfl, Nat.le_of_ble_eq_true rfl⟩ dL_law_241 rfl (fun H locs hh => ?_)
          refine lv_aload_n hx hb dL_law_244 rfl (lv_at hl 2 rfl) ?_
          refine lv_aload_n hx hb dL_law_245 rfl (lv_at hl 0 rfl) ?_
          refine lv_iload_n hx hb dL_law_246 rfl (lv_at hl 3 rfl) ?_
          refine lv_iconst (v := (1 : Int32)) hx hb dL_law_247 (by decide) ?_
          refine lv_iadd hx hb dL_law_248 ?_
          have hz := ix_e hf
          have hf := hz.2
          refine va_sld hx hb hX hbl hbA hh.2 hz.1 dL_law_249 ?_
          refine lv_topi (fun x49 e50 => ?_)
          have hf := lt_e e50 hf
          refine lv_aload_n hx hb dL_law_250 rfl (lv_at hl 0 rfl) ?_
          refine lv_iload_n hx hb dL_law_251 rfl (lv_at hl 3 rfl) ?_
          refine lv_iconst (v := (2 : Int32)) hx hb dL_law_252 (by decide) ?_
          refine lv_iadd hx hb dL_law_253 ?_
          have hz := ix_e hf
          have hf := hz.2
          refine va_sld hx hb hX hbl hbA hh.2 hz.1 dL_law_254 ?_
          refine lv_topi (fun x52 e53 => ?_)
          have hf := lt_e e53 hf
          refine lv_aload_n hx hb dL_law_255 rfl (lv_at hl 0 rfl) ?_
          refine lv_iload_n hx hb dL_law_256 rfl (lv_at hl 3 rfl) ?_
          refine lv_iconst (v := (3 : Int32)) hx hb dL_law_257 (by decide) ?_
          refine lv_iadd hx hb dL_law_258 ?_
          have hz := ix_e hf
          have hf := hz.2
          refine va_sld hx hb hX hbl hbA hh.2 hz.1 dL_law_259 ?_
          refine lv_topi (fun x55 e56 => ?_)
          have hf := lt_e e56 hf
          obtain ⟨v58, w59, hc57, hf⟩ := c2_e hf
          refine q_V (w' := w59) (rest := [.int v46]) X hml hh (some (.int v58)) (m_X8_put l B D hm0 hc57) cf_X8_put k_778 hm0 ci_8 rfl rfl hl.1 rfl (Nat.le_of_ble_eq_true rfl) ⟨Nat.le_of_ble_eq_true rfl, Nat.le_of_ble_eq_true rfl⟩ ⟨Nat.le_of_ble_eq_true rfl, Nat.le_of_ble_eq_true rfl⟩ dL_law_260 rfl (fun H locs hh => ?_)
          refine lv_icmp_eq (tgt := 1232) hx hb dL_law_263 (by decide) (fun hc60 => ?_) (fun hc60 => ?_)
          · have hf := if_t hc60 hf
            exact hj12 _ hf  _ _ _ hh (lv_sub hl [0, 1, 2, 3] rfl)
          · have hf := if_f hc60 hf
            refine lv_iconst (v := (0 : Int32)) hx hb dL_law_266 (by decide) ?_
            exact absurd (so_e hf) (by decide)
        · have hf := if_f hc35 hf
          by_cases hc61 : x9.toInt = 2
          · have hf := if_t hc61 hf
            refine lv_tableIn (off := 236) (tgt := 268) hx hb dL_law_32 (by omega) (by omega) (by rw [hc61]; rfl) (by decide) ?_
            refine lv_aload_n hx hb dL_law_268 rfl (lv_at hl 1 rfl) ?_
            refine lv_aload_n hx hb dL_law_269 rfl (lv_at hl 0 rfl) ?_
            refine lv_iload_n hx hb dL_law_270 rfl (lv_at hl 3 rfl) ?_
            refine lv_iconst (v := (1 : Int32)) hx hb dL_law_271 (by decide) ?_
            refine lv_iadd hx hb dL_law_272 ?_
            have hz := ix_e hf
            have hf := hz.2
            refine va_sld hx hb hX hbl hbA hh.2 hz.1 dL_law_273 ?_
            refine lv_topi (fun x63 e64 => ?_)
            have hf := lt_e e64 hf
            refine lv_aload_n hx hb dL_law_274 rfl (lv_at hl 0 rfl) ?_
            refine lv_iload_n hx hb dL_law_275 rfl (lv_at hl 3 rfl) ?_
            refine lv_iconst (v := (2 : Int32)) hx hb dL_law_276 (by decide) ?_
            refine lv_iadd hx hb dL_law_277 ?_
            have hz := ix_e hf
            have hf := hz.2
            refine va_sld hx hb hX hbl hbA hh.2 hz.1 dL_law_278 ?_
            refine lv_topi (fun x66 e67 => ?_)
            have hf := lt_e e67 hf
            obtain ⟨v69, hc68, hf⟩ := c1_e hf
            refine q_V (w' := w2) (rest := []) X hml hh (some (.int v69)) (m_X7_cell l B D hg0 hc68) cf_X7_cell k_281 hg0 ci_7 rfl rfl hl.1 rfl (Nat.le_of_ble_eq_true rfl) ⟨Nat.le_of_ble_eq_true rfl, Nat.le_of_ble_eq_true rfl⟩ ⟨Nat.le_of_ble_eq_true rfl, Nat.le_of_ble_eq_true rfl⟩ dL_law_279 rfl (fun H locs hh => ?_)
            refine lv_aload_n hx hb dL_law_282 rfl (lv_at hl 2 rfl) ?_
            refine lv_aload_n hx hb dL_law_283 rfl (lv_at hl 0 rfl) ?_
            refine lv_iload_n hx hb dL_law_284 rfl (lv_at hl 3 rfl) ?_
            refine lv_iconst (v := (1 : Int32)) hx hb dL_law_285 (by decide) ?_
            refine lv_iadd hx hb dL_law_286 ?_
            have hz := ix_e hf
            have hf := hz.2
            refine va_sld hx hb hX hbl hbA hh.2 hz.1 dL_law_287 ?_
            refine lv_topi (fun x71 e72 => ?_)
            have hf := lt_e e72 hf
            refine lv_aload_n hx hb dL_law_288 rfl (lv_at hl 0 rfl) ?_
            refine lv_iload_n hx hb dL_law_289 rfl (lv_at hl 3 rfl) ?_
            refine lv_iconst (v := (2 : Int32)) hx hb dL_law_290 (by decide) ?_
            refine lv_iadd hx hb dL_law_291 ?_
            have hz := ix_e hf
            have hf := hz.2
            refine va_sld hx hb hX hbl hbA hh.2 hz.1 dL_law_292 ?_
            refine lv_topi (fun x74 e75 => ?_)
            have hf := lt_e e75 hf
            obtain ⟨v77, hc76, hf⟩ := c1_e hf
            refine q_V (w' := w2) (rest := [.int v69]) X hml hh (some (.int v77)) (m_X8_cell l B D hm0 hc76) cf_X8_cell k_790 hm0 ci_8 rfl rfl hl.1 rfl (Nat.le_of_ble_eq_true rfl) ⟨Nat.le_of_ble_eq_true rfl, Nat.le_of_ble_eq_true rfl⟩ ⟨Nat.le_of_ble_eq_true rfl, Nat.le_of_ble_eq_true rfl⟩ dL_law_293 rfl (fun H locs hh => ?_)
            refine lv_icmp_eq (tgt := 1232) hx hb dL_law_296 (by decide) (fun hc78 => ?_) (fun hc78 => ?_)
            · have hf := if_t hc78 hf
              exact hj12 _ hf  _ _ _ hh (lv_sub hl [0, 1, 2, 3] rfl)
            · have hf := if_f hc78 hf
              refine lv_iconst (v := (0 : Int32)) hx hb dL_law_299 (by decide) ?_
              exact absurd (so_e hf) (by decide)
          · have hf := if_f hc61 hf
            by_cases hc79 : x9.toInt = 3
            · have hf := if_t hc79 hf
              refine lv_tableIn (off := 269) (tgt := 301) hx hb dL_law_32 (by omega) (by omega) (by rw [hc79]; rfl) (by decide) ?_
              refine lv_aload_n hx hb dL_law_301 rfl (lv_at hl 1 rfl) ?_
              refine lv_aload_n hx hb dL_law_302 rfl (lv_at hl 0 rfl) ?_
              refine lv_iload_n hx hb dL_law_303 rfl (lv_at hl 3 rfl) ?_
              refine lv_iconst (v := (1 : Int32)) hx hb dL_law_304 (by decide) ?_
              refine lv_iadd hx hb dL_law_305 ?_
              have hz := ix_e hf
              have hf := hz.2
              refine va_sld hx hb hX hbl hbA hh.2 hz.1 dL_law_306 ?_
              refine lv_topi (fun x81 e82 => ?_)
              have hf := lt_e e82 hf
              obtain ⟨v84, w85, hc83, hf⟩ := c2_e hf
              refine q_V (w' := w85) (rest := []) X hml hh (some (.int v84)) (m_X7_rule l B D hg0 hc83) cf_X7_rule k_285 hg0 ci_7 rfl rfl hl.1 rfl (Nat.le_of_ble_eq_true rfl) ⟨Nat.le_of_ble_eq_true rfl, Nat.le_of_ble_eq_true rfl⟩ ⟨Nat.le_of_ble_eq_true rfl, Nat.le_of_ble_eq_true rfl⟩ dL_law_307 rfl (fun H locs hh => ?_)
              refine lv_aload_n hx hb dL_law_310 rfl (lv_at hl 2 rfl) ?_
              refine lv_aload_n hx hb dL_law_311 rfl (lv_at hl 0 rfl) ?_
              refine lv_iload_n hx hb dL_law_312 rfl (lv_at hl 3 rfl) ?_
              refine lv_iconst (v := (1 : Int32)) hx hb dL_law_313 (by decide) ?_
              refine lv_iadd hx hb dL_law_314 ?_
              have hz := ix_e hf
              have hf := hz.2
              refine va_sld hx hb hX hbl hbA hh.2 hz.1 dL_law_315 ?_
              refine lv_topi (fun x87 e88 => ?_)
              have hf := lt_e e88 hf
              obtain ⟨v90, w91, hc89, hf⟩ := c2_e hf
              refine q_V (w' := w91) (rest := [.int v84]) X hml hh (some (.int v90)) (m_X8_rule l B D hm0 hc89) cf_X8_rule k_794 hm0 ci_8 rfl rfl hl.1 rfl (Nat.le_of_ble_eq_true rfl) ⟨Nat.le_of_ble_eq_true rfl, Nat.le_of_ble_eq_true rfl⟩ ⟨Nat.le_of_ble_eq_true rfl, Nat.le_of_ble_eq_true rfl⟩ dL_law_316 rfl (fun H locs hh => ?_)
              refine lv_icmp_eq (tgt := 1232) hx hb dL_law_319 (by decide) (fun hc92 => ?_) (fun hc92 => ?_)
              · have hf := if_t hc92 hf
                exact hj12 _ hf  _ _ _ hh (lv_sub hl [0, 1, 2, 3] rfl)
              · have hf := if_f hc92 hf
                refine lv_iconst (v := (0 : Int32)) hx hb dL_law_322 (by decide) ?_
                exact absurd (so_e hf) (by decide)
            · have hf := if_f hc79 hf
              by_cases hc93 : x9.toInt = 4
              · have hf := if_t hc93 hf
                refine lv_tableIn (off := 292) (tgt := 324) hx hb dL_law_32 (by omega) (by omega) (by rw [hc93]; rfl) (by decide) ?_
                refine lv_aload_n hx hb dL_law_324 rfl (lv_at hl 1 rfl) ?_
                refine lv_aload_n hx hb dL_law_325 rfl (lv_at hl 0 rfl) ?_
                refine lv_iload_n hx hb dL_law_326 rfl (lv_at hl 3 rfl) ?_
                refine lv_iconst (v := (1 : Int32)) hx hb dL_law_327 (by decide) ?_
                refine lv_iadd hx hb dL_law_328 ?_
                have hz := ix_e hf
                have hf := hz.2
                refine va_sld hx hb hX hbl hbA hh.2 hz.1 dL_law_329 ?_
                refine lv_topi (fun x95 e96 => ?_)
                have hf := lt_e e96 hf
                obtain ⟨v98, w99, hc97, hf⟩ := c2_e hf
                refine q_V (w' := w99) (rest := []) X hml hh (some (.int v98)) (m_X7_word l B D hg0 hc97) cf_X7_word k_292 hg0 ci_7 rfl rfl hl.1 rfl (Nat.le_of_ble_eq_true rfl) ⟨Nat.le_of_ble_eq_true rfl, Nat.le_of_ble_eq_true rfl⟩ ⟨Nat.le_of_ble_eq_true rfl, Nat.le_of_ble_eq_true rfl⟩ dL_law_330 rfl (fun H locs hh => ?_)
                refine lv_aload_n hx hb dL_law_333 rfl (lv_at hl 2 rfl) ?_
                refine lv_aload_n hx hb dL_law_334 rfl (lv_at hl 0 rfl) ?_
                refine lv_iload_n hx hb dL_law_335 rfl (lv_at hl 3 rfl) ?_
                refine lv_iconst (v := (1 : Int32)) hx hb dL_law_336 (by decide) ?_
                refine lv_iadd hx hb dL_law_337 ?_
                have hz := ix_e hf
                have hf := hz.2
                refine va_sld hx hb hX hbl hbA hh.2 hz.1 dL_law_338 ?_
                refine lv_topi (fun x101 e102 => ?_)
                have hf := lt_e e102 hf
                obtain ⟨v104, w105, hc103, hf⟩ := c2_e hf
                refine q_V (w' := w105) (rest := [.int v98]) X hml hh (some (.int v104)) (m_X8_word l B D hm0 hc103) cf_X8_word k_798 hm0 ci_8 rfl rfl hl.1 rfl (Nat.le_of_ble_eq_true rfl) ⟨Nat.le_of_ble_eq_true rfl, Nat.le_of_ble_eq_true rfl⟩ ⟨Nat.le_of_ble_eq_true rfl, Nat.le_of_ble_eq_true rfl⟩ dL_law_339 rfl (fun H locs hh => ?_)
                refine lv_icmp_eq (tgt := 1232) hx hb dL_law_342 (by decide) (fun hc106 => ?_) (fun hc106 => ?_)
                · have hf := if_t hc106 hf
                  exact hj12 _ hf  _ _ _ hh (lv_sub hl [0, 1, 2, 3] rfl)
                · have hf := if_f hc106 hf
                  refine lv_iconst (v := (0 : Int32)) hx hb dL_law_345 (by decide) ?_
                  exact absurd (so_e hf) (by decide)
              · have hf := if_f hc93 hf
                by_cases hc107 : x9.toInt = 5
                · have hf := if_t hc107 hf
                  refine lv_tableIn (off := 315) (tgt := 347) hx hb dL_law_32 (by omega) (by omega) (by rw [hc107]; rfl) (by decide) ?_
                  refine lv_aload_n hx hb dL_law_347 rfl (lv_at hl 1 rfl) ?_
                  obtain ⟨v109, hc108, hf⟩ := c1_e hf
                  refine q_V (w' := w2) (rest := []) X hml hh (some (.int v109)) (m_X7_spelled l B D hg0 hc108) cf_X7_spelled k_310 hg0 ci_7 rfl rfl hl.1 rfl (Nat.le_of_ble_eq_true rfl) ⟨Nat.le_of_ble_eq_true rfl, Nat.le_of_ble_eq_true rfl⟩ ⟨Nat.le_of_ble_eq_true rfl, Nat.le_of_ble_eq_true rfl⟩ dL_law_348 rfl (fun H locs hh => ?_)
                  refine lv_aload_n hx hb dL_law_351 rfl (lv_at hl 2 rfl) ?_
                  obtain ⟨v111, hc110, hf⟩ := c1_e hf
                  refine q_V (w' := w2) (rest := [.int v109]) X hml hh (some (.int v111)) (m_X8_spelled l B D hm0 hc110) cf_X8_spelled k_809 hm0 ci_8 rfl rfl hl.1 rfl (Nat.le_of_ble_eq_true rfl) ⟨Nat.le_of_ble_eq_true rfl, Nat.le_of_ble_eq_true rfl⟩ ⟨Nat.le_of_ble_eq_true rfl, Nat.le_of_ble_eq_true rfl⟩ dL_law_352 rfl (fun H locs hh => ?_)
                  refine lv_icmp_eq (tgt := 1232) hx hb dL_law_355 (by decide) (fun hc112 => ?_) (fun hc112 => ?_)
                  · have hf := if_t hc112 hf
                    exact hj12 _ hf  _ _ _ hh (lv_sub hl [0, 1, 2, 3] rfl)
                  · have hf := if_f hc112 hf
                    refine lv_iconst (v := (0 : Int32)) hx hb dL_law_358 (by decide) ?_
                    exact absurd (so_e hf) (by decide)
                · have hf := if_f hc107 hf
                  by_cases hc113 : x9.toInt = 6
                  · have hf := if_t hc113 hf
                    refine lv_tableIn (off := 328) (tgt := 360) hx hb dL_law_32 (by omega) (by omega) (by rw [hc113]; rfl) (by decide) ?_
                    refine lv_aload_n hx hb dL_law_360 rfl (lv_at hl 1 rfl) ?_
                    refine lv_aload_n hx hb dL_law_361 rfl (lv_at hl 0 rfl) ?_
                    refine lv_iload_n hx hb dL_law_362 rfl (lv_at hl 3 rfl) ?_
                    refine lv_iconst (v := (1 : Int32)) hx hb dL_law_363 (by decide) ?_
                    refine lv_iadd hx hb dL_law_364 ?_
                    have hz := ix_e hf
                    have hf := hz.2
                    refine va_sld hx hb hX hbl hbA hh.2 hz.1 dL_law_365 ?_
                    refine lv_topi (fun x115 e116 => ?_)
                    have hf := lt_e e116 hf
                    obtain ⟨v118, w119, hc117, hf⟩ := c2_e hf
                    refine q_V (w' := w119) (rest := []) X hml hh (some (.int v118)) (m_X7_turn l B D hg0 hc117) cf_X7_turn k_319 hg0 ci_7 rfl rfl hl.1 rfl (Nat.le_of_ble_eq_true rfl) ⟨Nat.le_of_ble_eq_true rfl, Nat.le_of_ble_eq_true rfl⟩ ⟨Nat.le_of_ble_eq_true rfl, Nat.le_of_ble_eq_true rfl⟩ dL_law_366 rfl (fun H locs hh => ?_)
                    refine lv_aload_n hx hb dL_law_369 rfl (lv_at hl 2 rfl) ?_
                    refine lv_aload_n hx hb dL_law_370 rfl (lv_at hl 0 rfl) ?_
                    refine lv_iload_n hx hb dL_law_371 rfl (lv_at hl 3 rfl) ?_
                    refine lv_iconst (v := (1 : Int32)) hx hb dL_law_372 (by decide) ?_
                    refine lv_iadd hx hb dL_law_373 ?_
                    have hz := ix_e hf
                    have hf := hz.2
                    refine va_sld hx hb hX hbl hbA hh.2 hz.1 dL_law_374 ?_
                    refine lv_topi (fun x121 e122 => ?_)
                    have hf := lt_e e122 hf
                    obtain ⟨v124, w125, hc123, hf⟩ := c2_e hf
                    refine q_V (w' := w125) (rest := [.int v118]) X hml hh (some (.int v124)) (m_X8_turn l B D hm0 hc123) cf_X8_turn k_813 hm0 ci_8 rfl rfl hl.1 rfl (Nat.le_of_ble_eq_true rfl) ⟨Nat.le_of_ble_eq_true rfl, Nat.le_of_ble_eq_true rfl⟩ ⟨Nat.le_of_ble_eq_true rfl, Nat.le_of_ble_eq_true rfl⟩ dL_law_375 rfl (fun H locs hh => ?_)
                    refine lv_icmp_eq (tgt := 1232) hx hb dL_law_378 (by decide) (fun hc126 => ?_) (fun hc126 => ?_)
                    · have hf := if_t hc126 hf
                      exact hj12 _ hf  _ _ _ hh (lv_sub hl [0, 1, 2, 3] rfl)
                    · have hf := if_f hc126 hf
                      refine lv_iconst (v := (0 : Int32)) hx hb dL_law_381 (by decide) ?_
                      exact absurd (so_e hf) (by decide)
                  · have hf := if_f hc113 hf
                    by_cases hc127 : x9.toInt = 7
                    · have hf := if_t hc127 hf
                      refine lv_tableIn (off := 351) (tgt := 383) hx hb dL_law_32 (by omega) (by omega) (by rw [hc127]; rfl) (by decide) ?_
                      refine lv_aload_n hx hb dL_law_383 rfl (lv_at hl 1 rfl) ?_
                      refine lv_aload_n hx hb dL_law_384 rfl (lv_at hl 0 rfl) ?_
                      refine lv_iload_n hx hb dL_law_385 rfl (lv_at hl 3 rfl) ?_
                      refine lv_iconst (v := (1 : Int32)) hx hb dL_law_386 (by decide) ?_
                      refine lv_iadd hx hb dL_law_387 ?_
                      have hz := ix_e hf
                      have hf := hz.2
                      refine va_sld hx hb hX hbl hbA hh.2 hz.1 dL_law_388 ?_
                      refine lv_topi (fun x129 e130 => ?_)
                      have hf := lt_e e130 hf
                      refine lv_aload_n hx hb dL_law_389 rfl (lv_at hl 0 rfl) ?_
                      refine lv_iload_n hx hb dL_law_390 rfl (lv_at hl 3 rfl) ?_
                      refine lv_iconst (v := (2 : Int32)) hx hb dL_law_391 (by decide) ?_
                      refine lv_iadd hx hb dL_law_392 ?_
                      have hz := ix_e hf
                      have hf := hz.2
                      refine va_sld hx hb hX hbl hbA hh.2 hz.1 dL_law_393 ?_
                      refine lv_topi (fun x132 e133 => ?_)
                      have hf := lt_e e133 hf
                      refine lv_aload_n hx hb dL_law_394 rfl (lv_at hl 0 rfl) ?_
                      refine lv_iload_n hx hb dL_law_395 rfl (lv_at hl 3 rfl) ?_
                      refine lv_iconst (v := (3 : Int32)) hx hb dL_law_396 (by decide) ?_
                      refine lv_iadd hx hb dL_law_397 ?_
                      have hz := ix_e hf
                      have hf := hz.2
                      refine va_sld hx hb hX hbl hbA hh.2 hz.1 dL_law_398 ?_
                      refine lv_topi (fun x135 e136 => ?_)
                      have hf := lt_e e136 hf
                      obtain ⟨v138, w139, hc137, hf⟩ := c2_e hf
                      refine q_V (w' := w139) (rest := []) X hml hh (some (.int v138)) (m_X7_part l B D hg0 hc137) cf_X7_part k_324 hg0 ci_7 rfl rfl hl.1 rfl (Nat.le_of_ble_eq_true rfl) ⟨Nat.le_of_ble_eq_true rfl, Nat.le_of_ble_eq_true rfl⟩ ⟨Nat.le_of_ble_eq_true rfl, Nat.le_of_ble_eq_true rfl⟩ dL_law_399 rfl (fun H locs hh => ?_)
                      refine lv_aload_n hx hb dL_law_402 rfl (lv_at hl 2 rfl) ?_
                      refine lv_aload_n hx hb dL_law_403 rfl (lv_at hl 0 rfl) ?_
                      refine lv_iload_n hx hb dL_law_404 rfl (lv_at hl 3 rfl) ?_
                      refine lv_iconst (v := (1 : Int32)) hx hb dL_law_405 (by decide) ?_
                      refine lv_iadd hx hb dL_law_406 ?_
                      have hz := ix_e hf
                      have hf := hz.2
                      refine va_sld hx hb hX hbl hbA hh.2 hz.1 dL_law_407 ?_
                      refine lv_topi (fun x141 e142 => ?_)
                      have hf := lt_e e142 hf
                      refine lv_aload_n hx hb dL_law_408 rfl (lv_at hl 0 rfl) ?_
                      refine lv_iload_n hx hb dL_law_409 rfl (lv_at hl 3 rfl) ?_
                      refine lv_iconst (v := (2 : Int32)) hx hb dL_law_410 (by decide) ?_
                      refine lv_iadd hx hb dL_law_411 ?_
                      have hz := ix_e hf
                      have hf := hz.2
                      refine va_sld hx hb hX hbl hbA hh.2 hz.1 dL_law_412 ?_
                      refine lv_topi (fun x144 e145 => ?_)
                      have hf := lt_e e145 hf
                      refine lv_aload_n hx hb dL_law_413 rfl (lv_at hl 0 rfl) ?_
                      refine lv_iload_n hx hb dL_law_414 rfl (lv_at hl 3 rfl) ?_
                      refine lv_iconst (v := (3 : Int32)) hx hb dL_law_415 (by decide) ?_
                      refine lv_iadd hx hb dL_law_416 ?_
                      have hz := ix_e hf
                      have hf := hz.2
                      refine va_sld hx hb hX hbl hbA hh.2 hz.1 dL_law_417 ?_
                      refine lv_topi (fun x147 e148 => ?_)
                      have hf := lt_e e148 hf
                      obtain ⟨v150, w151, hc149, hf⟩ := c2_e hf
                      refine q_V (w' := w151) (rest := [.int v138]) X hml hh (some (.int v150)) (m_X8_part l B D hm0 hc149) cf_X8_part k_818 hm0 ci_8 rfl rfl hl.1 rfl (Nat.le_of_ble_eq_true rfl) ⟨Nat.le_of_ble_eq_true rfl, Nat.le_of_ble_eq_true rfl⟩ ⟨Nat.le_of_ble_eq_true rfl, Nat.le_of_ble_eq_true rfl⟩ dL_law_418 rfl (fun H locs hh => ?_)
                      refine lv_icmp_eq (tgt := 1232) hx hb dL_law_421 (by decide) (fun hc152 => ?_) (fun hc152 => ?_)
                      · have hf := if_t hc152 hf
                        exact hj12 _ hf  _ _ _ hh (lv_sub hl [0, 1, 2, 3] rfl)
                      · have hf := if_f hc152 hf
                        refine lv_iconst (v := (0 : Int32)) hx hb dL_law_424 (by decide) ?_
                        exact absurd (so_e hf) (by decide)
                    · have hf := if_f hc127 hf
                      by_cases hc153 : x9.toInt = 8
                      · have hf := if_t hc153 hf
                        refine lv_tableIn (off := 394) (tgt := 426) hx hb dL_law_32 (by omega) (by omega) (by rw [hc153]; rfl) (by decide) ?_
                        refine lv_aload_n hx hb dL_law_426 rfl (lv_at hl 1 rfl) ?_
                        refine lv_aload_n hx hb dL_law_427 rfl (lv_at hl 0 rfl) ?_
                        refine lv_iload_n hx hb dL_law_428 rfl (lv_at hl 3 rfl) ?_
                        refine lv_iconst (v := (1 : Int32)) hx hb dL_law_429 (by decide) ?_
                        refine lv_iadd hx hb dL_law_430 ?_
                        have hz := ix_e hf
                        have hf := hz.2
                        refine va_sld hx hb hX hbl hbA hh.2 hz.1 dL_law_431 ?_
                        refine lv_topi (fun x155 e156 => ?_)
                        have hf := lt_e e156 hf
                        refine lv_aload_n hx hb dL_law_432 rfl (lv_at hl 0 rfl) ?_
                        refine lv_iload_n hx hb dL_law_433 rfl (lv_at hl 3 rfl) ?_
                        refine lv_iconst (v := (2 : Int32)) hx hb dL_law_434 (by decide) ?_
                        refine lv_iadd hx hb dL_law_435 ?_
                        have hz := ix_e hf
                        have hf := hz.2
                        refine va_sld hx hb hX hbl hbA hh.2 hz.1 dL_law_436 ?_
                        refine lv_topi (fun x158 e159 => ?_)
                        have hf := lt_e e159 hf
                        refine lv_aload_n hx hb dL_law_437 rfl (lv_at hl 0 rfl) ?_
                        refine lv_iload_n hx hb dL_law_438 rfl (lv_at hl 3 rfl) ?_
                        refine lv_iconst (v := (3 : Int32)) hx hb dL_law_439 (by decide) ?_
                        refine lv_iadd hx hb dL_law_440 ?_
                        have hz := ix_e hf
                        have hf := hz.2
                        refine va_sld hx hb hX hbl hbA hh.2 hz.1 dL_law_441 ?_
                        refine lv_topi (fun x161 e162 => ?_)
                        have hf := lt_e e162 hf
                        obtain ⟨v164, w165, hc163, hf⟩ := c2_e hf
                        refine q_V (w' := w165) (rest := []) X hml hh (some (.int v164)) (m_X7_shape l B D hg0 hc163) cf_X7_shape k_380 hg0 ci_7 rfl rfl hl.1 rfl (Nat.le_of_ble_eq_true rfl) ⟨Nat.le_of_ble_eq_true rfl, Nat.le_of_ble_eq_true rfl⟩ ⟨Nat.le_of_ble_eq_true rfl, Nat.le_of_ble_eq_true rfl⟩ dL_law_442 rfl (fun H locs hh => ?_)
                        refine lv_aload_n hx hb dL_law_445 rfl (lv_at hl 2 rfl) ?_
                        refine lv_aload_n hx hb dL_law_446 rfl (lv_at hl 0 rfl) ?_
                        refine lv_iload_n hx hb dL_law_447 rfl (lv_at hl 3 rfl) ?_
                        refine lv_iconst (v := (1 : Int32)) hx hb dL_law_448 (by decide) ?_
                        refine lv_iadd hx hb dL_law_449 ?_
                        have hz := ix_e hf
                        have hf := hz.2
                        refine va_sld hx hb hX hbl hbA hh.2 hz.1 dL_law_450 ?_
                        refine lv_topi (fun x167 e168 => ?_)
                        have hf := lt_e e168 hf
                        refine lv_aload_n hx hb dL_law_451 rfl (lv_at hl 0 rfl) ?_
                        refine lv_iload_n hx hb dL_law_452 rfl (lv_at hl 3 rfl) ?_
                        refine lv_iconst (v := (2 : Int32)) hx hb dL_law_453 (by decide) ?_
                        refine lv_iadd hx hb dL_law_454 ?_
                        have hz := ix_e hf
                        have hf := hz.2
                        refine va_sld hx hb hX hbl hbA hh.2 hz.1 dL_law_455 ?_
                        refine lv_topi (fun x170 e171 => ?_)
                        have hf := lt_e e171 hf
                        refine lv_aload_n hx hb dL_law_456 rfl (lv_at hl 0 rfl) ?_
                        refine lv_iload_n hx hb dL_law_457 rfl (lv_at hl 3 rfl) ?_
                        refine lv_iconst (v := (3 : Int32)) hx hb dL_law_458 (by decide) ?_
                        refine lv_iadd hx hb dL_law_459 ?_
                        have hz := ix_e hf
                        have hf := hz.2
                        refine va_sld hx hb hX hbl hbA hh.2 hz.1 dL_law_460 ?_
                        refine lv_topi (fun x173 e174 => ?_)
                        have hf := lt_e e174 hf
                        obtain ⟨v176, w177, hc175, hf⟩ := c2_e hf
                        refine q_V (w' := w177) (rest := [.int v164]) X hml hh (some (.int v176)) (m_X8_shape l B D hm0 hc175) cf_X8_shape k_842 hm0 ci_8 rfl rfl hl.1 rfl (Nat.le_of_ble_eq_true rfl) ⟨Nat.le_of_ble_eq_true rfl, Nat.le_of_ble_eq_true rfl⟩ ⟨Nat.le_of_ble_eq_true rfl, Nat.le_of_ble_eq_true rfl⟩ dL_law_461 rfl (fun H locs hh => ?_)
                        refine lv_icmp_eq (tgt := 1232) hx hb dL_law_464 (by decide) (fun hc178 => ?_) (fun hc178 => ?_)
                        · have hf := if_t hc178 hf
                          exact hj12 _ hf  _ _ _ hh (lv_sub hl [0, 1, 2, 3] rfl)
                        · have hf := if_f hc178 hf
                          refine lv_iconst (v := (0 : Int32)) hx hb dL_law_467 (by decide) ?_
                          exact absurd (so_e hf) (by decide)
                      · have hf := if_f hc153 hf
                        by_cases hc179 : x9.toInt = 9
                        · have hf := if_t hc179 hf
                          refine lv_tableIn (off := 437) (tgt := 469) hx hb dL_law_32 (by omega) (by omega) (by rw [hc179]; rfl) (by decide) ?_
                          refine lv_aload_n hx hb dL_law_469 rfl (lv_at hl 1 rfl) ?_
                          refine lv_aload_n hx hb dL_law_470 rfl (lv_at hl 0 rfl) ?_
                          refine lv_iload_n hx hb dL_law_471 rfl (lv_at hl 3 rfl) ?_
                          refine lv_iconst (v := (1 : Int32)) hx hb dL_law_472 (by decide) ?_
                          refine lv_iadd hx hb dL_law_473 ?_
                          have hz := ix_e hf
                          have hf := hz.2
                          refine va_sld hx hb hX hbl hbA hh.2 hz.1 dL_law_474 ?_
                          refine lv_topi (fun x181 e182 => ?_)
                          have hf := lt_e e182 hf
                          refine lv_aload_n hx hb dL_law_475 rfl (lv_at hl 0 rfl) ?_
                          refine lv_iload_n hx hb dL_law_476 rfl (lv_at hl 3 rfl) ?_
                          refine lv_iconst (v := (2 : Int32)) hx hb dL_law_477 (by decide) ?_
                          refine lv_iadd hx hb dL_law_478 ?_
                          have hz := ix_e hf
                          have hf := hz.2
                          refine va_sld hx hb hX hbl hbA hh.2 hz.1 dL_law_479 ?_
                          refine lv_topi (fun x184 e185 => ?_)
                          have hf := lt_e e185 hf
                          refine lv_aload_n hx hb dL_law_480 rfl (lv_at hl 0 rfl) ?_
                          refine lv_iload_n hx hb dL_law_481 rfl (lv_at hl 3 rfl) ?_
                          refine lv_iconst (v := (3 : Int32)) hx hb dL_law_482 (by decide) ?_
                          refine lv_iadd hx hb dL_law_483 ?_
                          have hz := ix_e hf
                          have hf := hz.2
                          refine va_sld hx hb hX hbl hbA hh.2 hz.1 dL_law_484 ?_
                          refine lv_topi (fun x187 e188 => ?_)
                          have hf := lt_e e188 hf
                          obtain ⟨v190, w191, hc189, hf⟩ := c2_e hf
                          refine q_V (w' := w191) (rest := []) X hml hh (some (.int v190)) (m_X7_turned l B D hg0 hc189) cf_X7_turned k_384 hg0 ci_7 rfl rfl hl.1 rfl (Nat.le_of_ble_eq_true rfl) ⟨Nat.le_of_ble_eq_true rfl, Nat.le_of_ble_eq_true rfl⟩ ⟨Nat.le_of_ble_eq_true rfl, Nat.le_of_ble_eq_true rfl⟩ dL_law_485 rfl (fun H locs hh => ?_)
                          refine lv_aload_n hx hb dL_law_488 rfl (lv_at hl 2 rfl) ?_
                          refine lv_aload_n hx hb dL_law_489 rfl (lv_at hl 0 rfl) ?_
                          refine lv_iload_n hx hb dL_law_490 rfl (lv_at hl 3 rfl) ?_
                          refine lv_iconst (v := (1 : Int32)) hx hb dL_law_491 (by decide) ?_
                          refine lv_iadd hx hb dL_law_492 ?_
                          have hz := ix_e hf
                          have hf := hz.2
                          refine va_sld hx hb hX hbl hbA hh.2 hz.1 dL_law_493 ?_
                          refine lv_topi (fun x193 e194 => ?_)
                          have hf := lt_e e194 hf
                          refine lv_aload_n hx hb dL_law_494 rfl (lv_at hl 0 rfl) ?_
                          refine lv_iload_n hx hb dL_law_495 rfl (lv_at hl 3 rfl) ?_
                          refine lv_iconst (v := (2 : Int32)) hx hb dL_law_496 (by decide) ?_
                          refine lv_iadd hx hb dL_law_497 ?_
                          have hz := ix_e hf
                          have hf := hz.2
                          refine va_sld hx hb hX hbl hbA hh.2 hz.1 dL_law_498 ?_
                          refine lv_topi (fun x196 e197 => ?_)
                          have hf := lt_e e197 hf
                          refine lv_aload_n hx hb dL_law_499 rfl (lv_at hl 0 rfl) ?_
                          refine lv_iload_n hx hb dL_law_500 rfl (lv_at hl 3 rfl) ?_
                          refine lv_iconst (v := (3 : Int32)) hx hb dL_law_501 (by decide) ?_
                          refine lv_iadd hx hb dL_law_502 ?_
                          have hz := ix_e hf
                          have hf := hz.2
                          refine va_sld hx hb hX hbl hbA hh.2 hz.1 dL_law_503 ?_
                          refine lv_topi (fun x199 e200 => ?_)
                          have hf := lt_e e200 hf
                          obtain ⟨v202, w203, hc201, hf⟩ := c2_e hf
                          refine q_V (w' := w203) (rest := [.int v190]) X hml hh (some (.int v202)) (m_X8_turned l B D hm0 hc201) cf_X8_turned k_854 hm0 ci_8 rfl rfl hl.1 rfl (Nat.le_of_ble_eq_true rfl) ⟨Nat.le_of_ble_eq_true rfl, Nat.le_of_ble_eq_true rfl⟩ ⟨Nat.le_of_ble_eq_true rfl, Nat.le_of_ble_eq_true rfl⟩ dL_law_504 rfl (fun H locs hh => ?_)
                          refine lv_icmp_eq (tgt := 1232) hx hb dL_law_507 (by decide) (fun hc204 => ?_) (fun hc204 => ?_)
                          · have hf := if_t hc204 hf
                            exact hj12 _ hf  _ _ _ hh (lv_sub hl [0, 1, 2, 3] rfl)
                          · have hf := if_f hc204 hf
                            refine lv_iconst (v := (0 : Int32)) hx hb dL_law_510 (by decide) ?_
                            exact absurd (so_e hf) (by decide)
                        · have hf := if_f hc179 hf
                          by_cases hc205 : x9.toInt = 10
                          · have hf := if_t hc205 hf
                            refine lv_tableIn (off := 480) (tgt := 512) hx hb dL_law_32 (by omega) (by omega) (by rw [hc205]; rfl) (by decide) ?_
                            refine lv_aload_n hx hb dL_law_512 rfl (lv_at hl 1 rfl) ?_
                            refine lv_aload_n hx hb dL_law_513 rfl (lv_at hl 0 rfl) ?_
                            refine lv_iload_n hx hb dL_law_514 rfl (lv_at hl 3 rfl) ?_
                            refine lv_iconst (v := (1 : Int32)) hx hb dL_law_515 (by decide) ?_
                            refine lv_iadd hx hb dL_law_516 ?_
                            have hz := ix_e hf
                            have hf := hz.2
                            refine va_sld hx hb hX hbl hbA hh.2 hz.1 dL_law_517 ?_
                            refine lv_topi (fun x207 e208 => ?_)
                            have hf := lt_e e208 hf
                            refine lv_aload_n hx hb dL_law_518 rfl (lv_at hl 0 rfl) ?_
                            refine lv_iload_n hx hb dL_law_519 rfl (lv_at hl 3 rfl) ?_
                            refine lv_iconst (v := (2 : Int32)) hx hb dL_law_520 (by decide) ?_
                            refine lv_iadd hx hb dL_law_521 ?_
                            have hz := ix_e hf
                            have hf := hz.2
                            refine va_sld hx hb hX hbl hbA hh.2 hz.1 dL_law_522 ?_
                            refine lv_topi (fun x210 e211 => ?_)
                            have hf := lt_e e211 hf
                            obtain ⟨v213, w214, hc212, hf⟩ := c2_e hf
                            refine q_V (w' := w214) (rest := []) X hml hh (some (.long v213)) (m_X7_standard l B D hg0 hc212) cf_X7_standard k_392 hg0 ci_7 rfl rfl hl.1 rfl (Nat.le_of_ble_eq_true rfl) ⟨Nat.le_of_ble_eq_true rfl, Nat.le_of_ble_eq_true rfl⟩ ⟨Nat.le_of_ble_eq_true rfl, Nat.le_of_ble_eq_true rfl⟩ dL_law_523 rfl (fun H locs hh => ?_)
                            refine lv_aload_n hx hb dL_law_526 rfl (lv_at hl 2 rfl) ?_
                            refine lv_aload_n hx hb dL_law_527 rfl (lv_at hl 0 rfl) ?_
                            refine lv_iload_n hx hb dL_law_528 rfl (lv_at hl 3 rfl) ?_
                            refine lv_iconst (v := (1 : Int32)) hx hb dL_law_529 (by decide) ?_
                            refine lv_iadd hx hb dL_law_530 ?_
                            have hz := ix_e hf
                            have hf := hz.2
                            refine va_sld hx hb hX hbl hbA hh.2 hz.1 dL_law_531 ?_
                            refine lv_topi (fun x216 e217 => ?_)
                            have hf := lt_e e217 hf
                            refine lv_aload_n hx hb dL_law_532 rfl (lv_at hl 0 rfl) ?_
                            refine lv_iload_n hx hb dL_law_533 rfl (lv_at hl 3 rfl) ?_
                            refine lv_iconst (v := (2 : Int32)) hx hb dL_law_534 (by decide) ?_
                            refine lv_iadd hx hb dL_law_535 ?_
                            have hz := ix_e hf
                            have hf := hz.2
                            refine va_sld hx hb hX hbl hbA hh.2 hz.1 dL_law_536 ?_
                            refine lv_topi (fun x219 e220 => ?_)
                            have hf := lt_e e220 hf
                            obtain ⟨v222, w223, hc221, hf⟩ := c2_e hf
                            refine q_V (w' := w223) (rest := [.long v213]) X hml hh (some (.long v222)) (m_X8_standard l B D hm0 hc221) cf_X8_standard k_862 hm0 ci_8 rfl rfl hl.1 rfl (Nat.le_of_ble_eq_true rfl) ⟨Nat.le_of_ble_eq_true rfl, Nat.le_of_ble_eq_true rfl⟩ ⟨Nat.le_of_ble_eq_true rfl, Nat.le_of_ble_eq_true rfl⟩ dL_law_537 rfl (fun H locs hh => ?_)
                            refine W.lcmp hx hb dL_law_540 ?_
                            refine lv_if_eq (tgt := 1232) hx hb dL_law_541 (by decide) (fun hc224 => ?_) (fun hc224 => ?_)
                            · have hf := if_t hc224 hf
                              exact hj12 _ hf  _ _ _ hh (lv_sub hl [0, 1, 2, 3] rfl)
                            · have hf := if_f hc224 hf
                              refine lv_iconst (v := (0 : Int32)) hx hb dL_law_544 (by decide) ?_
                              exact absurd (so_e hf) (by decide)
                          · have hf := if_f hc205 hf
                            by_cases hc225 : x9.toInt = 11
                            · have hf := if_t hc225 hf
                              refine lv_tableIn (off := 514) (tgt := 546) hx hb dL_law_32 (by omega) (by omega) (by rw [hc225]; rfl) (by decide) ?_
                              refine lv_aload_n hx hb dL_law_546 rfl (lv_at hl 1 rfl) ?_
                              refine lv_aload_n hx hb dL_law_547 rfl (lv_at hl 0 rfl) ?_
                              refine lv_iload_n hx hb dL_law_548 rfl (lv_at hl 3 rfl) ?_
                              refine lv_iconst (v := (1 : Int32)) hx hb dL_law_549 (by decide) ?_
                              refine lv_iadd hx hb dL_law_550 ?_
                              have hz := ix_e hf
                              have hf := hz.2
                              refine va_sld hx hb hX hbl hbA hh.2 hz.1 dL_law_551 ?_
                              refine lv_topi (fun x227 e228 => ?_)
                              have hf := lt_e e228 hf
                              refine lv_aload_n hx hb dL_law_552 rfl (lv_at hl 0 rfl) ?_
                              refine lv_iload_n hx hb dL_law_553 rfl (lv_at hl 3 rfl) ?_
                              refine lv_iconst (v := (2 : Int32)) hx hb dL_law_554 (by decide) ?_
                              refine lv_iadd hx hb dL_law_555 ?_
                              have hz := ix_e hf
                              have hf := hz.2
                              refine va_sld hx hb hX hbl hbA hh.2 hz.1 dL_law_556 ?_
                              refine lv_topi (fun x230 e231 => ?_)
                              have hf := lt_e e231 hf
                              obtain ⟨v233, w234, hc232, hf⟩ := c2_e hf
                              refine q_V (w' := w234) (rest := []) X hml hh (some (.int v233)) (m_X7_product l B D hg0 hc232) cf_X7_product k_403 hg0 ci_7 rfl rfl hl.1 rfl (Nat.le_of_ble_eq_true rfl) ⟨Nat.le_of_ble_eq_true rfl, Nat.le_of_ble_eq_true rfl⟩ ⟨Nat.le_of_ble_eq_true rfl, Nat.le_of_ble_eq_true rfl⟩ dL_law_557 rfl (fun H locs hh => ?_)
                              refine lv_aload_n hx hb dL_law_560 rfl (lv_at hl 2 rfl) ?_
                              refine lv_aload_n hx hb dL_law_561 rfl (lv_at hl 0 rfl) ?_
                              refine lv_iload_n hx hb dL_law_562 rfl (lv_at hl 3 rfl) ?_
                              refine lv_iconst (v := (1 : Int32)) hx hb dL_law_563 (by decide) ?_
                              refine lv_iadd hx hb dL_law_564 ?_
                              have hz := ix_e hf
                              have hf := hz.2
                              refine va_sld hx hb hX hbl hbA hh.2 hz.1 dL_law_565 ?_
                              refine lv_topi (fun x236 e237 => ?_)
                              have hf := lt_e e237 hf
                              refine lv_aload_n hx hb dL_law_566 rfl (lv_at hl 0 rfl) ?_
                              refine lv_iload_n hx hb dL_law_567 rfl (lv_at hl 3 rfl) ?_
                              refine lv_iconst (v := (2 : Int32)) hx hb dL_law_568 (by decide) ?_
                              refine lv_iadd hx hb dL_law_569 ?_
                              have hz := ix_e hf
                              have hf := hz.2
                              refine va_sld hx hb hX hbl hbA hh.2 hz.1 dL_law_570 ?_
                              refine lv_topi (fun x239 e240 => ?_)
                              have hf := lt_e e240 hf
                              obtain ⟨v242, w243, hc241, hf⟩ := c2_e hf
                              refine q_V (w' := w243) (rest := [.int v233]) X hml hh (some (.int v242)) (m_X8_product l B D hm0 hc241) cf_X8_product k_867 hm0 ci_8 rfl rfl hl.1 rfl (Nat.le_of_ble_eq_true rfl) ⟨Nat.le_of_ble_eq_true rfl, Nat.le_of_ble_eq_true rfl⟩ ⟨Nat.le_of_ble_eq_true rfl, Nat.le_of_ble_eq_true rfl⟩ dL_law_571 rfl (fun H locs hh => ?_)
                              refine lv_icmp_eq (tgt := 1232) hx hb dL_law_574 (by decide) (fun hc244 => ?_) (fun hc244 => ?_)
                              · have hf := if_t hc244 hf
                                exact hj12 _ hf  _ _ _ hh (lv_sub hl [0, 1, 2, 3] rfl)
                              · have hf := if_f hc244 hf
                                refine lv_iconst (v := (0 : Int32)) hx hb dL_law_577 (by decide) ?_
                                exact absurd (so_e hf) (by decide)
                            · have hf := if_f hc225 hf
                              by_cases hc245 : x9.toInt = 12
                              · have hf := if_t hc245 hf
                                refine lv_tableIn (off := 547) (tgt := 579) hx hb dL_law_32 (by omega) (by omega) (by rw [hc245]; rfl) (by decide) ?_
                                refine lv_aload_n hx hb dL_law_579 rfl (lv_at hl 1 rfl) ?_
                                refine lv_aload_n hx hb dL_law_580 rfl (lv_at hl 0 rfl) ?_
                                refine lv_iload_n hx hb dL_law_581 rfl (lv_at hl 3 rfl) ?_
                                refine lv_iconst (v := (1 : Int32)) hx hb dL_law_582 (by decide) ?_
                                refine lv_iadd hx hb dL_law_583 ?_
                                have hz := ix_e hf
                                have hf := hz.2
                                refine va_sld hx hb hX hbl hbA hh.2 hz.1 dL_law_584 ?_
                                refine lv_topi (fun x247 e248 => ?_)
                                have hf := lt_e e248 hf
                                refine lv_aload_n hx hb dL_law_585 rfl (lv_at hl 0 rfl) ?_
                                refine lv_iload_n hx hb dL_law_586 rfl (lv_at hl 3 rfl) ?_
                                refine lv_iconst (v := (2 : Int32)) hx hb dL_law_587 (by decide) ?_
                                refine lv_iadd hx hb dL_law_588 ?_
                                have hz := ix_e hf
                                have hf := hz.2
                                refine va_sld hx hb hX hbl hbA hh.2 hz.1 dL_law_589 ?_
                                refine lv_topi (fun x250 e251 => ?_)
                                have hf := lt_e e251 hf
                                refine lv_aload_n hx hb dL_law_590 rfl (lv_at hl 0 rfl) ?_
                                refine lv_iload_n hx hb dL_law_591 rfl (lv_at hl 3 rfl) ?_
                                refine lv_iconst (v := (3 : Int32)) hx hb dL_law_592 (by decide) ?_
                                refine lv_iadd hx hb dL_law_593 ?_
                                have hz := ix_e hf
                                have hf := hz.2
                                refine va_sld hx hb hX hbl hbA hh.2 hz.1 dL_law_594 ?_
                                refine lv_topi (fun x253 e254 => ?_)
                                have hf := lt_e e254 hf
                                obtain ⟨v256, w257, hc255, hf⟩ := c2_e hf
                                refine q_V (w' := w257) (rest := []) X hml hh (some (.int v256)) (m_X7_filling l B D hg0 hc255) cf_X7_filling k_412 hg0 ci_7 rfl rfl hl.1 rfl (Nat.le_of_ble_eq_true rfl) ⟨Nat.le_of_ble_eq_true rfl, Nat.le_of_ble_eq_true rfl⟩ ⟨Nat.le_of_ble_eq_true rfl, Nat.le_of_ble_eq_true rfl⟩ dL_law_595 rfl (fun H locs hh => ?_)
                                refine lv_aload_n hx hb dL_law_598 rfl (lv_at hl 2 rfl) ?_
                                refine lv_aload_n hx hb dL_law_599 rfl (lv_at hl 0 rfl) ?_
                                refine lv_iload_n hx hb dL_law_600 rfl (lv_at hl 3 rfl) ?_
                                refine lv_iconst (v := (1 : Int32)) hx hb dL_law_601 (by decide) ?_
                                refine lv_iadd hx hb dL_law_602 ?_
                                have hz := ix_e hf
                                have hf := hz.2
                                refine va_sld hx hb hX hbl hbA hh.2 hz.1 dL_law_603 ?_
                                refine lv_topi (fun x259 e260 => ?_)
                                have hf := lt_e e260 hf
                                refine lv_aload_n hx hb dL_law_604 rfl (lv_at hl 0 rfl) ?_
                                refine lv_iload_n hx hb dL_law_605 rfl (lv_at hl 3 rfl) ?_
                                refine lv_iconst (v := (2 : Int32)) hx hb dL_law_606 (by decide) ?_
                                refine lv_iadd hx hb dL_law_607 ?_
                                have hz := ix_e hf
                                have hf := hz.2
                                refine va_sld hx hb hX hbl hbA hh.2 hz.1 dL_law_608 ?_
                                refine lv_topi (fun x262 e263 => ?_)
                                have hf := lt_e e263 hf
                                refine lv_aload_n hx hb dL_law_609 rfl (lv_at hl 0 rfl) ?_
                                refine lv_iload_n hx hb dL_law_610 rfl (lv_at hl 3 rfl) ?_
                                refine lv_iconst (v := (3 : Int32)) hx hb dL_law_611 (by decide) ?_
                                refine lv_iadd hx hb dL_law_612 ?_
                                have hz := ix_e hf
                                have hf := hz.2
                                refine va_sld hx hb hX hbl hbA hh.2 hz.1 dL_law_613 ?_
                                refine lv_topi (fun x265 e266 => ?_)
                                have hf := lt_e e266 hf
                                obtain ⟨v268, w269, hc267, hf⟩ := c2_e hf
                                refine q_V (w' := w269) (rest := [.int v256]) X hml hh (some (.int v268)) (m_X8_filling l B D hm0 hc267) cf_X8_filling k_872 hm0 ci_8 rfl rfl hl.1 rfl (Nat.le_of_ble_eq_true rfl) ⟨Nat.le_of_ble_eq_true rfl, Nat.le_of_ble_eq_true rfl⟩ ⟨Nat.le_of_ble_eq_true rfl, Nat.le_of_ble_eq_true rfl⟩ dL_law_614 rfl (fun H locs hh => ?_)
                                refine lv_icmp_eq (tgt := 1232) hx hb dL_law_617 (by decide) (fun hc270 => ?_) (fun hc270 => ?_)
                                · have hf := if_t hc270 hf
                                  exact hj12 _ hf  _ _ _ hh (lv_sub hl [0, 1, 2, 3] rfl)
                                · have hf := if_f hc270 hf
                                  refine lv_iconst (v := (0 : Int32)) hx hb dL_law_620 (by decide) ?_
                                  exact absurd (so_e hf) (by decide)
                              · have hf := if_f hc245 hf
                                by_cases hc271 : x9.toInt = 13
                                · have hf := if_t hc271 hf
                                  refine lv_tableIn (off := 590) (tgt := 622) hx hb dL_law_32 (by omega) (by omega) (by rw [hc271]; rfl) (by decide) ?_
                                  refine lv_aload_n hx hb dL_law_622 rfl (lv_at hl 1 rfl) ?_
                                  refine lv_aload_n hx hb dL_law_623 rfl (lv_at hl 0 rfl) ?_
                                  refine lv_iload_n hx hb dL_law_624 rfl (lv_at hl 3 rfl) ?_
                                  refine lv_iconst (v := (1 : Int32)) hx hb dL_law_625 (by decide) ?_
                                  refine lv_iadd hx hb dL_law_626 ?_
                                  have hz := ix_e hf
                                  have hf := hz.2
                                  refine va_sld hx hb hX hbl hbA hh.2 hz.1 dL_law_627 ?_
                                  refine lv_topi (fun x273 e274 => ?_)
                                  have hf := lt_e e274 hf
                                  refine lv_aload_n hx hb dL_law_628 rfl (lv_at hl 0 rfl) ?_
                                  refine lv_iload_n hx hb dL_law_629 rfl (lv_at hl 3 rfl) ?_
                                  refine lv_iconst (v := (2 : Int32)) hx hb dL_law_630 (by decide) ?_
                                  refine lv_iadd hx hb dL_law_631 ?_
                                  have hz := ix_e hf
                                  have hf := hz.2
                                  refine va_sld hx hb hX hbl hbA hh.2 hz.1 dL_law_632 ?_
                                  refine lv_topi (fun x276 e277 => ?_)
                                  have hf := lt_e e277 hf
                                  obtain ⟨v279, w280, hc278, hf⟩ := c2_e hf
                                  refine q_V (w' := w280) (rest := []) X hml hh (some (.int v279)) (m_X7_along l B D hg0 hc278) cf_X7_along k_416 hg0 ci_7 rfl rfl hl.1 rfl (Nat.le_of_ble_eq_true rfl) ⟨Nat.le_of_ble_eq_true rfl, Nat.le_of_ble_eq_true rfl⟩ ⟨Nat.le_of_ble_eq_true rfl, Nat.le_of_ble_eq_true rfl⟩ dL_law_633 rfl (fun H locs hh => ?_)
                                  refine lv_aload_n hx hb dL_law_636 rfl (lv_at hl 2 rfl) ?_
                                  refine lv_aload_n hx hb dL_law_637 rfl (lv_at hl 0 rfl) ?_
                                  refine lv_iload_n hx hb dL_law_638 rfl (lv_at hl 3 rfl) ?_
                                  refine lv_iconst (v := (1 : Int32)) hx hb dL_law_639 (by decide) ?_
                                  refine lv_iadd hx hb dL_law_640 ?_
                                  have hz := ix_e hf
                                  have hf := hz.2
                                  refine va_sld hx hb hX hbl hbA hh.2 hz.1 dL_law_641 ?_
                                  refine lv_topi (fun x282 e283 => ?_)
                                  have hf := lt_e e283 hf
                                  refine lv_aload_n hx hb dL_law_642 rfl (lv_at hl 0 rfl) ?_
                                  refine lv_iload_n hx hb dL_law_643 rfl (lv_at hl 3 rfl) ?_
                                  refine lv_iconst (v := (2 : Int32)) hx hb dL_law_644 (by decide) ?_
                                  refine lv_iadd hx hb dL_law_645 ?_
                                  have hz := ix_e hf
                                  have hf := hz.2
                                  refine va_sld hx hb hX hbl hbA hh.2 hz.1 dL_law_646 ?_
                                  refine lv_topi (fun x285 e286 => ?_)
                                  have hf := lt_e e286 hf
                                  obtain ⟨v288, w289, hc287, hf⟩ := c2_e hf
                                  refine q_V (w' := w289) (rest := [.int v279]) X hml hh (some (.int v288)) (m_X8_along l B D hm0 hc287) cf_X8_along k_876 hm0 ci_8 rfl rfl hl.1 rfl (Nat.le_of_ble_eq_true rfl) ⟨Nat.le_of_ble_eq_true rfl, Nat.le_of_ble_eq_true rfl⟩ ⟨Nat.le_of_ble_eq_true rfl, Nat.le_of_ble_eq_true rfl⟩ dL_law_647 rfl (fun H locs hh => ?_)
                                  refine lv_icmp_eq (tgt := 1232) hx hb dL_law_650 (by decide) (fun hc290 => ?_) (fun hc290 => ?_)
                                  · have hf := if_t hc290 hf
                                    exact hj12 _ hf  _ _ _ hh (lv_sub hl [0, 1, 2, 3] rfl)
                                  · have hf := if_f hc290 hf
                                    refine lv_iconst (v := (0 : Int32)) hx hb dL_law_653 (by decide) ?_
                                    exact absurd (so_e hf) (by decide)
                                · have hf := if_f hc271 hf
                                  by_cases hc291 : x9.toInt = 14
                                  · have hf := if_t hc291 hf
                                    refine lv_tableIn (off := 623) (tgt := 655) hx hb dL_law_32 (by omega) (by omega) (by rw [hc291]; rfl) (by decide) ?_
                                    refine lv_aload_n hx hb dL_law_655 rfl (lv_at hl 1 rfl) ?_
                                    refine lv_aload_n hx hb dL_law_656 rfl (lv_at hl 0 rfl) ?_
                                    refine lv_iload_n hx hb dL_law_657 rfl (lv_at hl 3 rfl) ?_
                                    refine lv_iconst (v := (1 : Int32)) hx hb dL_law_658 (by decide) ?_
                                    refine lv_iadd hx hb dL_law_659 ?_
                                    have hz := ix_e hf
                                    have hf := hz.2
                                    refine va_sld hx hb hX hbl hbA hh.2 hz.1 dL_law_660 ?_
                                    refine lv_topi (fun x293 e294 => ?_)
                                    have hf := lt_e e294 hf
                                    obtain ⟨v296, w297, hc295, hf⟩ := c2_e hf
                                    refine q_V (w' := w297) (rest := []) X hml hh (some (.int v296)) (m_X7_fits l B D hg0 hc295) cf_X7_fits k_426 hg0 ci_7 rfl rfl hl.1 rfl (Nat.le_of_ble_eq_true rfl) ⟨Nat.le_of_ble_eq_true rfl, Nat.le_of_ble_eq_true rfl⟩ ⟨Nat.le_of_ble_eq_true rfl, Nat.le_of_ble_eq_true rfl⟩ dL_law_661 rfl (fun H locs hh => ?_)
                                    refine lv_aload_n hx hb dL_law_664 rfl (lv_at hl 2 rfl) ?_
                                    refine lv_aload_n hx hb dL_law_665 rfl (lv_at hl 0 rfl) ?_
                                    refine lv_iload_n hx hb dL_law_666 rfl (lv_at hl 3 rfl) ?_
                                    refine lv_iconst (v := (1 : Int32)) hx hb dL_law_667 (by decide) ?_
                                    refine lv_iadd hx hb dL_law_668 ?_
                                    have hz := ix_e hf
                                    have hf := hz.2
                                    refine va_sld hx hb hX hbl hbA hh.2 hz.1 dL_law_669 ?_
                                    refine lv_topi (fun x299 e300 => ?_)
                                    have hf := lt_e e300 hf
                                    obtain ⟨v302, w303, hc301, hf⟩ := c2_e hf
                                    refine q_V (w' := w303) (rest := [.int v296]) X hml hh (some (.int v302)) (m_X8_fits l B D hm0 hc301) cf_X8_fits k_880 hm0 ci_8 rfl rfl hl.1 rfl (Nat.le_of_ble_eq_true rfl) ⟨Nat.le_of_ble_eq_true rfl, Nat.le_of_ble_eq_true rfl⟩ ⟨Nat.le_of_ble_eq_true rfl, Nat.le_of_ble_eq_true rfl⟩ dL_law_670 rfl (fun H locs hh => ?_)
                                    refine lv_icmp_eq (tgt := 1232) hx hb dL_law_673 (by decide) (fun hc304 => ?_) (fun hc304 => ?_)
                                    · have hf := if_t hc304 hf
                                      exact hj12 _ hf  _ _ _ hh (lv_sub hl [0, 1, 2, 3] rfl)
                                    · have hf := if_f hc304 hf
                                      refine lv_iconst (v := (0 : Int32)) hx hb dL_law_676 (by decide) ?_
                                      exact absurd (so_e hf) (by decide)
                                  · have hf := if_f hc291 hf
                                    by_cases hc305 : x9.toInt = 15
                                    · have hf := if_t hc305 hf
                                      refine lv_tableIn (off := 646) (tgt := 678) hx hb dL_law_32 (by omega) (by omega) (by rw [hc305]; rfl) (by decide) ?_
                                      refine lv_aload_n hx hb dL_law_678 rfl (lv_at hl 1 rfl) ?_
                                      refine lv_aload_n hx hb dL_law_679 rfl (lv_at hl 0 rfl) ?_
                                      refine lv_iload_n hx hb dL_law_680 rfl (lv_at hl 3 rfl) ?_
                                      refine lv_iconst (v := (1 : Int32)) hx hb dL_law_681 (by decide) ?_
                                      refine lv_iadd hx hb dL_law_682 ?_
                                      have hz := ix_e hf
                                      have hf := hz.2
                                      refine va_sld hx hb hX hbl hbA hh.2 hz.1 dL_law_683 ?_
                                      refine lv_topi (fun x307 e308 => ?_)
                                      have hf := lt_e e308 hf
                                      obtain ⟨v310, w311, hc309, hf⟩ := c2_e hf
                                      refine q_V (w' := w311) (rest := []) X hml hh (some (.int v310)) (m_X7_back l B D hg0 hc309) cf_X7_back k_446 hg0 ci_7 rfl rfl hl.1 rfl (Nat.le_of_ble_eq_true rfl) ⟨Nat.le_of_ble_eq_true rfl, Nat.le_of_ble_eq_true rfl⟩ ⟨Nat.le_of_ble_eq_true rfl, Nat.le_of_ble_eq_true rfl⟩ dL_law_684 rfl (fun H locs hh => ?_)
                                      refine lv_aload_n hx hb dL_law_687 rfl (lv_at hl 2 rfl) ?_
                                      refine lv_aload_n hx hb dL_law_688 rfl (lv_at hl 0 rfl) ?_
                                      refine lv_iload_n hx hb dL_law_689 rfl (lv_at hl 3 rfl) ?_
                                      refine lv_iconst (v := (1 : Int32)) hx hb dL_law_690 (by decide) ?_
                                      refine lv_iadd hx hb dL_law_691 ?_
                                      have hz := ix_e hf
                                      have hf := hz.2
                                      refine va_sld hx hb hX hbl hbA hh.2 hz.1 dL_law_692 ?_
                                      refine lv_topi (fun x313 e314 => ?_)
                                      have hf := lt_e e314 hf
                                      obtain ⟨v316, w317, hc315, hf⟩ := c2_e hf
                                      refine q_V (w' := w317) (rest := [.int v310]) X hml hh (some (.int v316)) (m_X8_back l B D hm0 hc315) cf_X8_back k_892 hm0 ci_8 rfl rfl hl.1 rfl (Nat.le_of_ble_eq_true rfl) ⟨Nat.le_of_ble_eq_true rfl, Nat.le_of_ble_eq_true rfl⟩ ⟨Nat.le_of_ble_eq_true rfl, Nat.le_of_ble_eq_true rfl⟩ dL_law_693 rfl (fun H locs hh => ?_)
                                      refine lv_icmp_eq (tgt := 1232) hx hb dL_law_696 (by decide) (fun hc318 => ?_) (fun hc318 => ?_)
                                      · have hf := if_t hc318 hf
                                        exact hj12 _ hf  _ _ _ hh (lv_sub hl [0, 1, 2, 3] rfl)
                                      · have hf := if_f hc318 hf
                                        refine lv_iconst (v := (0 : Int32)) hx hb dL_law_699 (by decide) ?_
                                        exact absurd (so_e hf) (by decide)
                                    · have hf := if_f hc305 hf
                                      by_cases hc319 : x9.toInt = 16
                                      · have hf := if_t hc319 hf
                                        refine lv_tableIn (off := 669) (tgt := 701) hx hb dL_law_32 (by omega) (by omega) (by rw [hc319]; rfl) (by decide) ?_
                                        refine lv_aload_n hx hb dL_law_701 rfl (lv_at hl 1 rfl) ?_
                                        refine lv_aload_n hx hb dL_law_702 rfl (lv_at hl 0 rfl) ?_
                                        refine lv_iload_n hx hb dL_law_703 rfl (lv_at hl 3 rfl) ?_
                                        refine lv_iconst (v := (1 : Int32)) hx hb dL_law_704 (by decide) ?_
                                        refine lv_iadd hx hb dL_law_705 ?_
                                        have hz := ix_e hf
                                        have hf := hz.2
                                        refine va_sld hx hb hX hbl hbA hh.2 hz.1 dL_law_706 ?_
                                        refine lv_topi (fun x321 e322 => ?_)
                                        have hf := lt_e e322 hf
                                        refine lv_aload_n hx hb dL_law_707 rfl (lv_at hl 0 rfl) ?_
                                        refine lv_iload_n hx hb dL_law_708 rfl (lv_at hl 3 rfl) ?_
                                        refine lv_iconst (v := (2 : Int32)) hx hb dL_law_709 (by decide) ?_
                                        refine lv_iadd hx hb dL_law_710 ?_
                                        have hz := ix_e hf
                                        have hf := hz.2
                                        refine va_sld hx hb hX hbl hbA hh.2 hz.1 dL_law_711 ?_
                                        refine lv_topi (fun x324 e325 => ?_)
                                        have hf := lt_e e325 hf
                                        obtain ⟨v327, w328, hc326, hf⟩ := c2_e hf
                                        refine q_V (w' := w328) (rest := []) X hml hh (some (.int v327)) (m_X7_longest l B D hg0 hc326) cf_X7_longest k_467 hg0 ci_7 rfl rfl hl.1 rfl (Nat.le_of_ble_eq_true rfl) ⟨Nat.le_of_ble_eq_true rfl, Nat.le_of_ble_eq_true rfl⟩ ⟨Nat.le_of_ble_eq_true rfl, Nat.le_of_ble_eq_true rfl⟩ dL_law_712 rfl (fun H locs hh => ?_)
                                        refine lv_aload_n hx hb dL_law_715 rfl (lv_at hl 2 rfl) ?_
                                        refine lv_aload_n hx hb dL_law_716 rfl (lv_at hl 0 rfl) ?_
                                        refine lv_iload_n hx hb dL_law_717 rfl (lv_at hl 3 rfl) ?_
                                        refine lv_iconst (v := (1 : Int32)) hx hb dL_law_718 (by decide) ?_
                                        refine lv_iadd hx hb dL_law_719 ?_
                                        have hz := ix_e hf
                                        have hf := hz.2
                                        refine va_sld hx hb hX hbl hbA hh.2 hz.1 dL_law_720 ?_
                                        refine lv_topi (fun x330 e331 => ?_)
                                        have hf := lt_e e331 hf
                                        refine lv_aload_n hx hb dL_law_721 rfl (lv_at hl 0 rfl) ?_
                                        refine lv_iload_n hx hb dL_law_722 rfl (lv_at hl 3 rfl) ?_
                                        refine lv_iconst (v := (2 : Int32)) hx hb dL_law_723 (by decide) ?_
                                        refine lv_iadd hx hb dL_law_724 ?_
                                        have hz := ix_e hf
                                        have hf := hz.2
                                        refine va_sld hx hb hX hbl hbA hh.2 hz.1 dL_law_725 ?_
                                        refine lv_topi (fun x333 e334 => ?_)
                                        have hf := lt_e e334 hf
                                        obtain ⟨v336, w337, hc335, hf⟩ := c2_e hf
                                        refine q_V (w' := w337) (rest := [.int v327]) X hml hh (some (.int v336)) (m_X8_longest l B D hm0 hc335) cf_X8_longest k_900 hm0 ci_8 rfl rfl hl.1 rfl (Nat.le_of_ble_eq_true rfl) ⟨Nat.le_of_ble_eq_true rfl, Nat.le_of_ble_eq_true rfl⟩ ⟨Nat.le_of_ble_eq_true rfl, Nat.le_of_ble_eq_true rfl⟩ dL_law_726 rfl (fun H locs hh => ?_)
                                        refine lv_icmp_eq (tgt := 1232) hx hb dL_law_729 (by decide) (fun hc338 => ?_) (fun hc338 => ?_)
                                        · have hf := if_t hc338 hf
                                          exact hj12 _ hf  _ _ _ hh (lv_sub hl [0, 1, 2, 3] rfl)
                                        · have hf := if_f hc338 hf
                                          refine lv_iconst (v := (0 : Int32)) hx hb dL_law_732 (by decide) ?_
                                          exact absurd (so_e hf) (by decide)
                                      · have hf := if_f hc319 hf
                                        by_cases hc339 : x9.toInt = 17
                                        · have hf := if_t hc339 hf
                                          refine lv_tableIn (off := 702) (tgt := 734) hx hb dL_law_32 (by omega) (by omega) (by rw [hc339]; rfl) (by decide) ?_
                                          refine lv_aload_n hx hb dL_law_734 rfl (lv_at hl 1 rfl) ?_
                                          refine lv_aload_n hx hb dL_law_735 rfl (lv_at hl 0 rfl) ?_
                                          refine lv_iload_n hx hb dL_law_736 rfl (lv_at hl 3 rfl) ?_
                                          refine lv_iconst (v := (1 : Int32)) hx hb dL_law_737 (by decide) ?_
                                          refine lv_iadd hx hb dL_law_738 ?_
                                          have hz := ix_e hf
                                          have hf := hz.2
                                          refine va_sld hx hb hX hbl hbA hh.2 hz.1 dL_law_739 ?_
                                          refine lv_topi (fun x341 e342 => ?_)
                                          have hf := lt_e e342 hf
                                          refine lv_aload_n hx hb dL_law_740 rfl (lv_at hl 0 rfl) ?_
                                          refine lv_iload_n hx hb dL_law_741 rfl (lv_at hl 3 rfl) ?_
                                          refine lv_iconst (v := (2 : Int32)) hx hb dL_law_742 (by decide) ?_
                                          refine lv_iadd hx hb dL_law_743 ?_
                                          have hz := ix_e hf
                                          have hf := hz.2
                                          refine va_sld hx hb hX hbl hbA hh.2 hz.1 dL_law_744 ?_
                                          refine lv_topi (fun x344 e345 => ?_)
                                          have hf := lt_e e345 hf
                                          obtain ⟨v347, w348, hc346, hf⟩ := c2_e hf
                                          refine q_V (w' := w348) (rest := []) X hml hh (some (.int v347)) (m_X7_union l B D hg0 hc346) cf_X7_union k_478 hg0 ci_7 rfl rfl hl.1 rfl (Nat.le_of_ble_eq_true rfl) ⟨Nat.le_of_ble_eq_true rfl, Nat.le_of_ble_eq_true rfl⟩ ⟨Nat.le_of_ble_eq_true rfl, Nat.le_of_ble_eq_true rfl⟩ dL_law_745 rfl (fun H locs hh => ?_)
                                          refine lv_aload_n hx hb dL_law_748 rfl (lv_at hl 2 rfl) ?_
                                          refine lv_aload_n hx hb dL_law_749 rfl (lv_at hl 0 rfl) ?_
                                          refine lv_iload_n hx hb dL_law_750 rfl (lv_at hl 3 rfl) ?_
                                          refine lv_iconst (v := (1 : Int32)) hx hb dL_law_751 (by decide) ?_
                                          refine lv_iadd hx hb dL_law_752 ?_
                                          have hz := ix_e hf
                                          have hf := hz.2
                                          refine va_sld hx hb hX hbl hbA hh.2 hz.1 dL_law_753 ?_
                                          refine lv_topi (fun x350 e351 => ?_)
                                          have hf := lt_e e351 hf
                                          refine lv_aload_n hx hb dL_law_754 rfl (lv_at hl 0 rfl) ?_
                                          refine lv_iload_n hx hb dL_law_755 rfl (lv_at hl 3 rfl) ?_
                                          refine lv_iconst (v := (2 : Int32)) hx hb dL_law_756 (by decide) ?_
                                          refine lv_iadd hx hb dL_law_757 ?_
                                          have hz := ix_e hf
                                          have hf := hz.2
                                          refine va_sld hx hb hX hbl hbA hh.2 hz.1 dL_law_758 ?_
                                          refine lv_topi (fun x353 e354 => ?_)
                                          have hf := lt_e e354 hf
                                          obtain ⟨v356, w357, hc355, hf⟩ := c2_e hf
                                          refine q_V (w' := w357) (rest := [.int v347]) X hml hh (some (.int v356)) (m_X8_union l B D hm0 hc355) cf_X8_union k_907 hm0 ci_8 rfl rfl hl.1 rfl (Nat.le_of_ble_eq_true rfl) ⟨Nat.le_of_ble_eq_true rfl, Nat.le_of_ble_eq_true rfl⟩ ⟨Nat.le_of_ble_eq_true rfl, Nat.le_of_ble_eq_true rfl⟩ dL_law_759 rfl (fun H locs hh => ?_)
                                          refine lv_icmp_eq (tgt := 1232) hx hb dL_law_762 (by decide) (fun hc358 => ?_) (fun hc358 => ?_)
                                          · have hf := if_t hc358 hf
                                            exact hj12 _ hf  _ _ _ hh (lv_sub hl [0, 1, 2, 3] rfl)
                                          · have hf := if_f hc358 hf
                                            refine lv_iconst (v := (0 : Int32)) hx hb dL_law_765 (by decide) ?_
                                            exact absurd (so_e hf) (by decide)
                                        · have hf := if_f hc339 hf
                                          by_cases hc359 : x9.toInt = 18
                                          · have hf := if_t hc359 hf
                                            refine lv_tableIn (off := 735) (tgt := 767) hx hb dL_law_32 (by omega) (by omega) (by rw [hc359]; rfl) (by decide) ?_
                                            refine lv_aload_n hx hb dL_law_767 rfl (lv_at hl 1 rfl) ?_
                                            refine lv_aload_n hx hb dL_law_768 rfl (lv_at hl 0 rfl) ?_
                                            refine lv_iload_n hx hb dL_law_769 rfl (lv_at hl 3 rfl) ?_
                                            refine lv_iconst (v := (1 : Int32)) hx hb dL_law_770 (by decide) ?_
                                            refine lv_iadd hx hb dL_law_771 ?_
                                            have hz := ix_e hf
                                            have hf := hz.2
                                            refine va_sld hx hb hX hbl hbA hh.2 hz.1 dL_law_772 ?_
                                            refine lv_topi (fun x361 e362 => ?_)
                                            have hf := lt_e e362 hf
                                            obtain ⟨v364, w365, hc363, hf⟩ := c2_e hf
                                            refine q_V (w' := w365) (rest := []) X hml hh (some (.int v364)) (m_X7_corner l B D hg0 hc363) cf_X7_corner k_487 hg0 ci_7 rfl rfl hl.1 rfl (Nat.le_of_ble_eq_true rfl) ⟨Nat.le_of_ble_eq_true rfl, Nat.le_of_ble_eq_true rfl⟩ ⟨Nat.le_of_ble_eq_true rfl, Nat.le_of_ble_eq_true rfl⟩ dL_law_773 rfl (fun H locs hh => ?_)
                                            refine lv_aload_n hx hb dL_law_776 rfl (lv_at hl 2 rfl) ?_
                                            refine lv_aload_n hx hb dL_law_777 rfl (lv_at hl 0 rfl) ?_
                                            refine lv_iload_n hx hb dL_law_778 rfl (lv_at hl 3 rfl) ?_
                                            refine lv_iconst (v := (1 : Int32)) hx hb dL_law_779 (by decide) ?_
                                            refine lv_iadd hx hb dL_law_780 ?_
                                            have hz := ix_e hf
                                            have hf := hz.2
                                            refine va_sld hx hb hX hbl hbA hh.2 hz.1 dL_law_781 ?_
                                            refine lv_topi (fun x367 e368 => ?_)
                                            have hf := lt_e e368 hf
                                            obtain ⟨v370, w371, hc369, hf⟩ := c2_e hf
                                            refine q_V (w' := w371) (rest := [.int v364]) X hml hh (some (.int v370)) (m_X8_corner l B D hm0 hc369) cf_X8_corner k_919 hm0 ci_8 rfl rfl hl.1 rfl (Nat.le_of_ble_eq_true rfl) ⟨Nat.le_of_ble_eq_true rfl, Nat.le_of_ble_eq_true rfl⟩ ⟨Nat.le_of_ble_eq_true rfl, Nat.le_of_ble_eq_true rfl⟩ dL_law_782 rfl (fun H locs hh => ?_)
                                            refine lv_icmp_eq (tgt := 1232) hx hb dL_law_785 (by decide) (fun hc372 => ?_) (fun hc372 => ?_)
                                            · have hf := if_t hc372 hf
                                              exact hj12 _ hf  _ _ _ hh (lv_sub hl [0, 1, 2, 3] rfl)
                                            · have hf := if_f hc372 hf
                                              refine lv_iconst (v := (0 : Int32)) hx hb dL_law_788 (by decide) ?_
                                              exact absurd (so_e hf) (by decide)
                                          · have hf := if_f hc359 hf
                                            by_cases hc373 : x9.toInt = 19
                                            · have hf := if_t hc373 hf
                                              refine lv_tableIn (off := 758) (tgt := 790) hx hb dL_law_32 (by omega) (by omega) (by rw [hc373]; rfl) (by decide) ?_
                                              refine lv_aload_n hx hb dL_law_790 rfl (lv_at hl 1 rfl) ?_
                                              refine lv_aload_n hx hb dL_law_791 rfl (lv_at hl 0 rfl) ?_
                                              refine lv_iload_n hx hb dL_law_792 rfl (lv_at hl 3 rfl) ?_
                                              refine lv_iconst (v := (1 : Int32)) hx hb dL_law_793 (by decide) ?_
                                              refine lv_iadd hx hb dL_law_794 ?_
                                              have hz := ix_e hf
                                              have hf := hz.2
                                              refine va_sld hx hb hX hbl hbA hh.2 hz.1 dL_law_795 ?_
                                              refine lv_topi (fun x375 e376 => ?_)
                                              have hf := lt_e e376 hf
                                              obtain ⟨v378, w379, hc377, hf⟩ := c2_e hf
                                              refine q_V (w' := w379) (rest := []) X hml hh (some (.int v378)) (m_X7_unlike l B D hg0 hc377) cf_X7_unlike k_511 hg0 ci_7 rfl rfl hl.1 rfl (Nat.le_of_ble_eq_true rfl) ⟨Nat.le_of_ble_eq_true rfl, Nat.le_of_ble_eq_true rfl⟩ ⟨Nat.le_of_ble_eq_true rfl, Nat.le_of_ble_eq_true rfl⟩ dL_law_796 rfl (fun H locs hh => ?_)
                                              refine lv_aload_n hx hb dL_law_799 rfl (lv_at hl 2 rfl) ?_
                                              refine lv_aload_n hx hb dL_law_800 rfl (lv_at hl 0 rfl) ?_
                                              refine lv_iload_n hx hb dL_law_801 rfl (lv_at hl 3 rfl) ?_
                                              refine lv_iconst (v := (1 : Int32)) hx hb dL_law_802 (by decide) ?_
                                              refine lv_iadd hx hb dL_law_803 ?_
                                              have hz := ix_e hf
                                              have hf := hz.2
                                              refine va_sld hx hb hX hbl hbA hh.2 hz.1 dL_law_804 ?_
                                              refine lv_topi (fun x381 e382 => ?_)
                                              have hf := lt_e e382 hf
                                              obtain ⟨v384, w385, hc383, hf⟩ := c2_e hf
                                              refine q_V (w' := w385) (rest := [.int v378]) X hml hh (some (.int v384)) (m_X8_unlike l B D hm0 hc383) cf_X8_unlike k_927 hm0 ci_8 rfl rfl hl.1 rfl (Nat.le_of_ble_eq_true rfl) ⟨Nat.le_of_ble_eq_true rfl, Nat.le_of_ble_eq_true rfl⟩ ⟨Nat.le_of_ble_eq_true rfl, Nat.le_of_ble_eq_true rfl⟩ dL_law_805 rfl (fun H locs hh => ?_)
                                              refine lv_icmp_eq (tgt := 1232) hx hb dL_law_808 (by decide) (fun hc386 => ?_) (fun hc386 => ?_)
                                              · have hf := if_t hc386 hf
                                                exact hj12 _ hf  _ _ _ hh (lv_sub hl [0, 1, 2, 3] rfl)
                                              · have hf := if_f hc386 hf
                                                refine lv_iconst (v := (0 : Int32)) hx hb dL_law_811 (by decide) ?_
                                                exact absurd (so_e hf) (by decide)
                                            · have hf := if_f hc373 hf
                                              by_cases hc387 : x9.toInt = 20
                                              · have hf := if_t hc387 hf
                                                refine lv_tableIn (off := 781) (tgt := 813) hx hb dL_law_32 (by omega) (by omega) (by rw [hc387]; rfl) (by decide) ?_
                                                refine lv_aload_n hx hb dL_law_813 rfl (lv_at hl 1 rfl) ?_
                                                obtain ⟨v389, w390, hc388, hf⟩ := c2_e hf
                                                refine q_V (w' := w390) (rest := []) X hml hh (some (.int v389)) (m_X7_undo l B D hg0 hc388) cf_X7_undo k_527 hg0 ci_7 rfl rfl hl.1 rfl (Nat.le_of_ble_eq_true rfl) ⟨Nat.le_of_ble_eq_true rfl, Nat.le_of_ble_eq_true rfl⟩ ⟨Nat.le_of_ble_eq_true rfl, Nat.le_of_ble_eq_true rfl⟩ dL_law_814 rfl (fun H locs hh => ?_)
                                                refine lv_aload_n hx hb dL_law_817 rfl (lv_at hl 2 rfl) ?_
                                                obtain ⟨v392, w393, hc391, hf⟩ := c2_e hf
                                                refine q_V (w' := w393) (rest := [.int v389]) X hml hh (some (.int v392)) (m_X8_undo l B D hm0 hc391) cf_X8_undo k_746 hm0 ci_8 rfl rfl hl.1 rfl (Nat.le_of_ble_eq_true rfl) ⟨Nat.le_of_ble_eq_true rfl, Nat.le_of_ble_eq_true rfl⟩ ⟨Nat.le_of_ble_eq_true rfl, Nat.le_of_ble_eq_true rfl⟩ dL_law_818 rfl (fun H locs hh => ?_)
                                                refine lv_icmp_eq (tgt := 1232) hx hb dL_law_821 (by decide) (fun hc394 => ?_) (fun hc394 => ?_)
                                                · have hf := if_t hc394 hf
                                                  exact hj12 _ hf  _ _ _ hh (lv_sub hl [0, 1, 2, 3] rfl)
                                                · have hf := if_f hc394 hf
                                                  refine lv_iconst (v := (0 : Int32)) hx hb dL_law_824 (by decide) ?_
                                                  exact absurd (so_e hf) (by decide)
                                              · have hf := if_f hc387 hf
                                                by_cases hc395 : x9.toInt = 21
                                                · have hf := if_t hc395 hf
                                                  refine lv_tableIn (off := 794) (tgt := 826) hx hb dL_law_32 (by omega) (by omega) (by rw [hc395]; rfl) (by decide) ?_
                                                  refine lv_aload_n hx hb dL_law_826 rfl (lv_at hl 1 rfl) ?_
                                                  obtain ⟨v397, w398, hc396, hf⟩ := c2_e hf
                                                  refine q_V (w' := w398) (rest := []) X hml hh (some (.int v397)) (m_X7_again l B D hg0 hc396) cf_X7_again k_539 hg0 ci_7 rfl rfl hl.1 rfl (Nat.le_of_ble_eq_true rfl) ⟨Nat.le_of_ble_eq_true rfl, Nat.le_of_ble_eq_true rfl⟩ ⟨Nat.le_of_ble_eq_true rfl, Nat.le_of_ble_eq_true rfl⟩ dL_law_827 rfl (fun H locs hh => ?_)
                                                  refine lv_aload_n hx hb dL_law_830 rfl (lv_at hl 2 rfl) ?_
                                                  obtain ⟨v400, w401, hc399, hf⟩ := c2_e hf
                                                  refine q_V (w' := w401) (rest := [.int v397]) X hml hh (some (.int v400)) (m_X8_again l B D hm0 hc399) cf_X8_again k_758 hm0 ci_8 rfl rfl hl.1 rfl (Nat.le_of_ble_eq_true rfl) ⟨Nat.le_of_ble_eq_true rfl, Nat.le_of_ble_eq_true rfl⟩ ⟨Nat.le_of_ble_eq_true rfl, Nat.le_of_ble_eq_true rfl⟩ dL_law_831 rfl (fun H locs hh => ?_)
                                                  refine lv_icmp_eq (tgt := 1232) hx hb dL_law_834 (by decide) (fun hc402 => ?_) (fun hc402 => ?_)
                                                  · have hf := if_t hc402 hf
                                                    exact hj12 _ hf  _ _ _ hh (lv_sub hl [0, 1, 2, 3] rfl)
                                                  · have hf := if_f hc402 hf
                                                    refine lv_iconst (v := (0 : Int32)) hx hb dL_law_837 (by decide) ?_
                                                    exact absurd (so_e hf) (by decide)
                                                · have hf := if_f hc395 hf
                                                  by_cases hc403 : x9.toInt = 22
                                                  · have hf := if_t hc403 hf
                                                    refine lv_tableIn (off := 807) (tgt := 839) hx hb dL_law_32 (by omega) (by omega) (by rw [hc403]; rfl) (by decide) ?_
                                                    refine lv_aload_n hx hb dL_law_839 rfl (lv_at hl 1 rfl) ?_
                                                    refine lv_aload_n hx hb dL_law_840 rfl (lv_at hl 0 rfl) ?_
                                                    refine lv_iload_n hx hb dL_law_841 rfl (lv_at hl 3 rfl) ?_
                                                    refine lv_iconst (v := (1 : Int32)) hx hb dL_law_842 (by decide) ?_
                                                    refine lv_iadd hx hb dL_law_843 ?_
                                                    have hz := ix_e hf
                                                    have hf := hz.2
                                                    refine va_sld hx hb hX hbl hbA hh.2 hz.1 dL_law_844 ?_
                                                    refine lv_topi (fun x405 e406 => ?_)
                                                    have hf := lt_e e406 hf
                                                    refine lv_aload_n hx hb dL_law_845 rfl (lv_at hl 0 rfl) ?_
                                                    refine lv_iload_n hx hb dL_law_846 rfl (lv_at hl 3 rfl) ?_
                                                    refine lv_iconst (v := (2 : Int32)) hx hb dL_law_847 (by decide) ?_
                                                    refine lv_iadd hx hb dL_law_848 ?_
                                                    have hz := ix_e hf
                                                    have hf := hz.2
                                                    refine va_sld hx hb hX hbl hbA hh.2 hz.1 dL_law_849 ?_
                                                    refine lv_topi (fun x408 e409 => ?_)
                                                    have hf := lt_e e409 hf
                                                    obtain ⟨v411, w412, hc410, hf⟩ := c2_e hf
                                                    refine q_V (w' := w412) (rest := []) X hml hh (some (.int v411)) (m_X7_feed l B D hg0 hc410) cf_X7_feed k_551 hg0 ci_7 rfl rfl hl.1 rfl (Nat.le_of_ble_eq_true rfl) ⟨Nat.le_of_ble_eq_true rfl, Nat.le_of_ble_eq_true rfl⟩ ⟨Nat.le_of_ble_eq_true rfl, Nat.le_of_ble_eq_true rfl⟩ dL_law_850 rfl (fun H locs hh => ?_)
                                                    refine lv_aload_n hx hb dL_law_853 rfl (lv_at hl 2 rfl) ?_
                                                    refine lv_aload_n hx hb dL_law_854 rfl (lv_at hl 0 rfl) ?_
                                                    refine lv_iload_n hx hb dL_law_855 rfl (lv_at hl 3 rfl) ?_
                                                    refine lv_iconst (v := (1 : Int32)) hx hb dL_law_856 (by decide) ?_
                                                    refine lv_iadd hx hb dL_law_857 ?_
                                                    have hz := ix_e hf
                                                    have hf := hz.2
                                                    refine va_sld hx hb hX hbl hbA hh.2 hz.1 dL_law_858 ?_
                                                    refine lv_topi (fun x414 e415 => ?_)
                                                    have hf := lt_e e415 hf
                                                    refine lv_aload_n hx hb dL_law_859 rfl (lv_at hl 0 rfl) ?_
                                                    refine lv_iload_n hx hb dL_law_860 rfl (lv_at hl 3 rfl) ?_
                                                    refine lv_iconst (v := (2 : Int32)) hx hb dL_law_861 (by decide) ?_
                                                    refine lv_iadd hx hb dL_law_862 ?_
                                                    have hz := ix_e hf
                                                    have hf := hz.2
                                                    refine va_sld hx hb hX hbl hbA hh.2 hz.1 dL_law_863 ?_
                                                    refine lv_topi (fun x417 e418 => ?_)
                                                    have hf := lt_e e418 hf
                                                    obtain ⟨v420, w421, hc419, hf⟩ := c2_e hf
                                                    refine q_V (w' := w421) (rest := [.int v411]) X hml hh (some (.int v420)) (m_X8_feed l B D hm0 hc419) cf_X8_feed k_931 hm0 ci_8 rfl rfl hl.1 rfl (Nat.le_of_ble_eq_true rfl) ⟨Nat.le_of_ble_eq_true rfl, Nat.le_of_ble_eq_true rfl⟩ ⟨Nat.le_of_ble_eq_true rfl, Nat.le_of_ble_eq_true rfl⟩ dL_law_864 rfl (fun H locs hh => ?_)
                                                    refine lv_icmp_eq (tgt := 1232) hx hb dL_law_867 (by decide) (fun hc422 => ?_) (fun hc422 => ?_)
                                                    · have hf := if_t hc422 hf
                                                      exact hj12 _ hf  _ _ _ hh (lv_sub hl [0, 1, 2, 3] rfl)
                                                    · have hf := if_f hc422 hf
                                                      refine lv_iconst (v := (0 : Int32)) hx hb dL_law_870 (by decide) ?_
                                                      exact absurd (so_e hf) (by decide)
                                                  · have hf := if_f hc403 hf
                                                    by_cases hc423 : x9.toInt = 23
                                                    · have hf := if_t hc423 hf
                                                      refine lv_tableIn (off := 840) (tgt := 872) hx hb dL_law_32 (by omega) (by omega) (by rw [hc423]; rfl) (by decide) ?_
                                                      refine lv_aload_n hx hb dL_law_872 rfl (lv_at hl 1 rfl) ?_
                                                      obtain ⟨v425, w426, hc424, hf⟩ := c2_e hf
                                                      refine q_V (w' := w426) (rest := []) X hml hh (some (.int v425)) (m_X7_wipe l B D hg0 hc424) cf_X7_wipe k_559 hg0 ci_7 rfl rfl hl.1 rfl (Nat.le_of_ble_eq_true rfl) ⟨Nat.le_of_ble_eq_true rfl, Nat.le_of_ble_eq_true rfl⟩ ⟨Nat.le_of_ble_eq_true rfl, Nat.le_of_ble_eq_true rfl⟩ dL_law_873 rfl (fun H locs hh => ?_)
                                                      refine lv_aload_n hx hb dL_law_876 rfl (lv_at hl 2 rfl) ?_
                                                      obtain ⟨v428, w429, hc427, hf⟩ := c2_e hf
                                                      refine q_V (w' := w429) (rest := [.int v425]) X hml hh (some (.int v428)) (m_X8_wipe l B D hm0 hc427) cf_X8_wipe k_936 hm0 ci_8 rfl rfl hl.1 rfl (Nat.le_of_ble_eq_true rfl) ⟨Nat.le_of_ble_eq_true rfl, Nat.le_of_ble_eq_true rfl⟩ ⟨Nat.le_of_ble_eq_true rfl, Nat.le_of_ble_eq_true rfl⟩ dL_law_877 rfl (fun H locs hh => ?_)
                                                      refine lv_icmp_eq (tgt := 1232) hx hb dL_law_880 (by decide) (fun hc430 => ?_) (fun hc430 => ?_)
                                                      · have hf := if_t hc430 hf
                                                        exact hj12 _ hf  _ _ _ hh (lv_sub hl [0, 1, 2, 3] rfl)
                                                      · have hf := if_f hc430 hf
                                                        refine lv_iconst (v := (0 : Int32)) hx hb dL_law_883 (by decide) ?_
                                                        exact absurd (so_e hf) (by decide)
                                                    · have hf := if_f hc423 hf
                                                      by_cases hc431 : x9.toInt = 24
                                                      · have hf := if_t hc431 hf
                                                        refine lv_tableIn (off := 853) (tgt := 885) hx hb dL_law_32 (by omega) (by omega) (by rw [hc431]; rfl) (by decide) ?_
                                                        refine lv_aload_n hx hb dL_law_885 rfl (lv_at hl 1 rfl) ?_
                                                        obtain ⟨v433, w434, hc432, hf⟩ := c2_e hf
                                                        refine q_V (w' := w434) (rest := []) X hml hh (some (.int v433)) (m_X7_read l B D hg0 hc432) cf_X7_read k_563 hg0 ci_7 rfl rfl hl.1 rfl (Nat.le_of_ble_eq_true rfl) ⟨Nat.le_of_ble_eq_true rfl, Nat.le_of_ble_eq_true rfl⟩ ⟨Nat.le_of_ble_eq_true rfl, Nat.le_of_ble_eq_true rfl⟩ dL_law_886 rfl (fun H locs hh => ?_)
                                                        refine lv_aload_n hx hb dL_law_889 rfl (lv_at hl 2 rfl) ?_
                                                        obtain ⟨v436, w437, hc435, hf⟩ := c2_e hf
                                                        refine q_V (w' := w437) (rest := [.int v433]) X hml hh (some (.int v436)) (m_X8_read l B D hm0 hc435) cf_X8_read k_940 hm0 ci_8 rfl rfl hl.1 rfl (Nat.le_of_ble_eq_true rfl) ⟨Nat.le_of_ble_eq_true rfl, Nat.le_of_ble_eq_true rfl⟩ ⟨Nat.le_of_ble_eq_true rfl, Nat.le_of_ble_eq_true rfl⟩ dL_law_890 rfl (fun H locs hh => ?_)
                                                        refine lv_icmp_eq (tgt := 1232) hx hb dL_law_893 (by decide) (fun hc438 => ?_) (fun hc438 => ?_)
                                                        · have hf := if_t hc438 hf
                                                          exact hj12 _ hf  _ _ _ hh (lv_sub hl [0, 1, 2, 3] rfl)
                                                        · have hf := if_f hc438 hf
                                                          refine lv_iconst (v := (0 : Int32)) hx hb dL_law_896 (by decide) ?_
                                                          exact absurd (so_e hf) (by decide)
                                                      · have hf := if_f hc431 hf
                                                        by_cases hc439 : x9.toInt = 25
                                                        · have hf := if_t hc439 hf
                                                          refine lv_tableIn (off := 866) (tgt := 898) hx hb dL_law_32 (by omega) (by omega) (by rw [hc439]; rfl) (by decide) ?_
                                                          refine lv_aload_n hx hb dL_law_898 rfl (lv_at hl 1 rfl) ?_
                                                          refine lv_aload_n hx hb dL_law_899 rfl (lv_at hl 0 rfl) ?_
                                                          refine lv_iload_n hx hb dL_law_900 rfl (lv_at hl 3 rfl) ?_
                                                          refine lv_iconst (v := (1 : Int32)) hx hb dL_law_901 (by decide) ?_
                                                          refine lv_iadd hx hb dL_law_902 ?_
                                                          have hz := ix_e hf
                                                          have hf := hz.2
                                                          refine va_sld hx hb hX hbl hbA hh.2 hz.1 dL_law_903 ?_
                                                          refine lv_topi (fun x441 e442 => ?_)
                                                          have hf := lt_e e442 hf
                                                          refine lv_aload_n hx hb dL_law_904 rfl (lv_at hl 0 rfl) ?_
                                                          refine lv_iload_n hx hb dL_law_905 rfl (lv_at hl 3 rfl) ?_
                                                          refine lv_iconst (v := (2 : Int32)) hx hb dL_law_906 (by decide) ?_
                                                          refine lv_iadd hx hb dL_law_907 ?_
                                                          have hz := ix_e hf
                                                          have hf := hz.2
                                                          refine va_sld hx hb hX hbl hbA hh.2 hz.1 dL_law_908 ?_
                                                          refine lv_topi (fun x444 e445 => ?_)
                                                          have hf := lt_e e445 hf
                                                          refine lv_aload_n hx hb dL_law_909 rfl (lv_at hl 0 rfl) ?_
                                                          refine lv_iload_n hx hb dL_law_910 rfl (lv_at hl 3 rfl) ?_
                                                          refine lv_iconst (v := (3 : Int32)) hx hb dL_law_911 (by decide) ?_
                                                          refine lv_iadd hx hb dL_law_912 ?_
                                                          have hz := ix_e hf
                                                          have hf := hz.2
                                                          refine va_sld hx hb hX hbl hbA hh.2 hz.1 dL_law_913 ?_
                                                          refine lv_topi (fun x447 e448 => ?_)
                                                          have hf := lt_e e448 hf
                                                          obtain ⟨v450, w451, hc449, hf⟩ := c2_e hf
                                                          refine q_V (w' := w451) (rest := []) X hml hh (some (.int v450)) (m_X7_hold l B D hg0 hc449) cf_X7_hold k_589 hg0 ci_7 rfl rfl hl.1 rfl (Nat.le_of_ble_eq_true rfl) ⟨Nat.le_of_ble_eq_true rfl, Nat.le_of_ble_eq_true rfl⟩ ⟨Nat.le_of_ble_eq_true rfl, Nat.le_of_ble_eq_true rfl⟩ dL_law_914 rfl (fun H locs hh => ?_)
                                                          refine lv_aload_n hx hb dL_law_917 rfl (lv_at hl 2 rfl) ?_
                                                          refine lv_aload_n hx hb dL_law_918 rfl (lv_at hl 0 rfl) ?_
                                                          refine lv_iload_n hx hb dL_law_919 rfl (lv_at hl 3 rfl) ?_
                                                          refine lv_iconst (v := (1 : Int32)) hx hb dL_law_920 (by decide) ?_
                                                          refine lv_iadd hx hb dL_law_921 ?_
                                                          have hz := ix_e hf
                                                          have hf := hz.2
                                                          refine va_sld hx hb hX hbl hbA hh.2 hz.1 dL_law_922 ?_
                                                          refine lv_topi (fun x453 e454 => ?_)
                                                          have hf := lt_e e454 hf
                                                          refine lv_aload_n hx hb dL_law_923 rfl (lv_at hl 0 rfl) ?_
                                                          refine lv_iload_n hx hb dL_law_924 rfl (lv_at hl 3 rfl) ?_
                                                          refine lv_iconst (v := (2 : Int32)) hx hb dL_law_925 (by decide) ?_
                                                          refine lv_iadd hx hb dL_law_926 ?_
                                                          have hz := ix_e hf
                                                          have hf := hz.2
                                                          refine va_sld hx hb hX hbl hbA hh.2 hz.1 dL_law_927 ?_
                                                          refine lv_topi (fun x456 e457 => ?_)
                                                          have hf := lt_e e457 hf
                                                          refine lv_aload_n hx hb dL_law_928 rfl (lv_at hl 0 rfl) ?_
                                                          refine lv_iload_n hx hb dL_law_929 rfl (lv_at hl 3 rfl) ?_
                                                          refine lv_iconst (v := (3 : Int32)) hx hb dL_law_930 (by decide) ?_
                                                          refine lv_iadd hx hb dL_law_931 ?_
                                                          have hz := ix_e hf
                                                          have hf := hz.2
                                                          refine va_sld hx hb hX hbl hbA hh.2 hz.1 dL_law_932 ?_
                                                          refine lv_topi (fun x459 e460 => ?_)
                                                          have hf := lt_e e460 hf
                                                          obtain ⟨v462, w463, hc461, hf⟩ := c2_e hf
                                                          refine q_V (w' := w463) (rest := [.int v450]) X hml hh (some (.int v462)) (m_X8_hold l B D hm0 hc461) cf_X8_hold k_952 hm0 ci_8 rfl rfl hl.1 rfl (Nat.le_of_ble_eq_true rfl) ⟨Nat.le_of_ble_eq_true rfl, Nat.le_of_ble_eq_true rfl⟩ ⟨Nat.le_of_ble_eq_true rfl, Nat.le_of_ble_eq_true rfl⟩ dL_law_933 rfl (fun H locs hh => ?_)
                                                          refine lv_icmp_eq (tgt := 1232) hx hb dL_law_936 (by decide) (fun hc464 => ?_) (fun hc464 => ?_)
                                                          · have hf := if_t hc464 hf
                                                            exact hj12 _ hf  _ _ _ hh (lv_sub hl [0, 1, 2, 3] rfl)
                                                          · have hf := if_f hc464 hf
                                                            refine lv_iconst (v := (0 : Int32)) hx hb dL_law_939 (by decide) ?_
                                                            exact absurd (so_e hf) (by decide)
                                                        · have hf := if_f hc439 hf
                                                          by_cases hc465 : x9.toInt = 26
                                                          · have hf := if_t hc465 hf
                                                            refine lv_tableIn (off := 909) (tgt := 941) hx hb dL_law_32 (by omega) (by omega) (by rw [hc465]; rfl) (by decide) ?_
                                                            refine lv_aload_n hx hb dL_law_941 rfl (lv_at hl 1 rfl) ?_
                                                            refine lv_aload_n hx hb dL_law_942 rfl (lv_at hl 0 rfl) ?_
                                                            refine lv_iload_n hx hb dL_law_943 rfl (lv_at hl 3 rfl) ?_
                                                            refine lv_iconst (v := (1 : Int32)) hx hb dL_law_944 (by decide) ?_
                                                            refine lv_iadd hx hb dL_law_945 ?_
                                                            have hz := ix_e hf
                                                            have hf := hz.2
                                                            refine va_sld hx hb hX hbl hbA hh.2 hz.1 dL_law_946 ?_
                                                            refine lv_topi (fun x467 e468 => ?_)
                                                            have hf := lt_e e468 hf
                                                            obtain ⟨v470, w471, hc469, hf⟩ := c2_e hf
                                                            refine q_V (w' := w471) (rest := []) X hml hh (some (.int v470)) (m_X7_drop l B D hg0 hc469) cf_X7_drop k_604 hg0 ci_7 rfl rfl hl.1 rfl (Nat.le_of_ble_eq_true rfl) ⟨Nat.le_of_ble_eq_true rfl, Nat.le_of_ble_eq_true rfl⟩ ⟨Nat.le_of_ble_eq_true rfl, Nat.le_of_ble_eq_true rfl⟩ dL_law_947 rfl (fun H locs hh => ?_)
                                                            refine lv_aload_n hx hb dL_law_950 rfl (lv_at hl 2 rfl) ?_
                                                            refine lv_aload_n hx hb dL_law_951 rfl (lv_at hl 0 rfl) ?_
                                                            refine lv_iload_n hx hb dL_law_952 rfl (lv_at hl 3 rfl) ?_
                                                            refine lv_iconst (v := (1 : Int32)) hx hb dL_law_953 (by decide) ?_
                                                            refine lv_iadd hx hb dL_law_954 ?_
                                                            have hz := ix_e hf
                                                            have hf := hz.2
                                                            refine va_sld hx hb hX hbl hbA hh.2 hz.1 dL_law_955 ?_
                                                            refine lv_topi (fun x473 e474 => ?_)
                                                            have hf := lt_e e474 hf
                                                            obtain ⟨v476, w477, hc475, hf⟩ := c2_e hf
                                                            refine q_V (w' := w477) (rest := [.int v470]) X hml hh (some (.int v476)) (m_X8_drop l B D hm0 hc475) cf_X8_drop k_959 hm0 ci_8 rfl rfl hl.1 rfl (Nat.le_of_ble_eq_true rfl) ⟨Nat.le_of_ble_eq_true rfl, Nat.le_of_ble_eq_true rfl⟩ ⟨Nat.le_of_ble_eq_true rfl, Nat.le_of_ble_eq_true rfl⟩ dL_law_956 rfl (fun H locs hh => ?_)
                                                            refine lv_icmp_eq (tgt := 1232) hx hb dL_law_959 (by decide) (fun hc478 => ?_) (fun hc478 => ?_)
                                                            · have hf := if_t hc478 hf
                                                              exact hj12 _ hf  _ _ _ hh (lv_sub hl [0, 1, 2, 3] rfl)
                                                            · have hf := if_f hc478 hf
                                                              refine lv_iconst (v := (0 : Int32)) hx hb dL_law_962 (by decide) ?_
                                                              exact absurd (so_e hf) (by decide)
                                                          · have hf := if_f hc465 hf
                                                            by_cases hc479 : x9.toInt = 27
                                                            · have hf := if_t hc479 hf
                                                              refine lv_tableIn (off := 932) (tgt := 964) hx hb dL_law_32 (by omega) (by omega) (by rw [hc479]; rfl) (by decide) ?_
                                                              refine lv_aload_n hx hb dL_law_964 rfl (lv_at hl 1 rfl) ?_
                                                              refine lv_aload_n hx hb dL_law_965 rfl (lv_at hl 0 rfl) ?_
                                                              refine lv_iload_n hx hb dL_law_966 rfl (lv_at hl 3 rfl) ?_
                                                              refine lv_iconst (v := (1 : Int32)) hx hb dL_law_967 (by decide) ?_
                                                              refine lv_iadd hx hb dL_law_968 ?_
                                                              have hz := ix_e hf
                                                              have hf := hz.2
                                                              refine va_sld hx hb hX hbl hbA hh.2 hz.1 dL_law_969 ?_
                                                              refine lv_topi (fun x481 e482 => ?_)
                                                              have hf := lt_e e482 hf
                                                              refine lv_aload_n hx hb dL_law_970 rfl (lv_at hl 0 rfl) ?_
                                                              refine lv_iload_n hx hb dL_law_971 rfl (lv_at hl 3 rfl) ?_
                                                              refine lv_iconst (v := (2 : Int32)) hx hb dL_law_972 (by decide) ?_
                                                              refine lv_iadd hx hb dL_law_973 ?_
                                                              have hz := ix_e hf
                                                              have hf := hz.2
                                                              refine va_sld hx hb hX hbl hbA hh.2 hz.1 dL_law_974 ?_
                                                              refine lv_topi (fun x484 e485 => ?_)
                                                              have hf := lt_e e485 hf
                                                              obtain ⟨v487, hc486, hf⟩ := c1_e hf
                                                              refine q_V (w' := w2) (rest := []) X hml hh (some (.int v487)) (m_X7_taken l B D hg0 hc486) cf_X7_taken k_608 hg0 ci_7 rfl rfl hl.1 rfl (Nat.le_of_ble_eq_true rfl) ⟨Nat.le_of_ble_eq_true rfl, Nat.le_of_ble_eq_true rfl⟩ ⟨Nat.le_of_ble_eq_true rfl, Nat.le_of_ble_eq_true rfl⟩ dL_law_975 rfl (fun H locs hh => ?_)
                                                              refine lv_aload_n hx hb dL_law_978 rfl (lv_at hl 2 rfl) ?_
                                                              refine lv_aload_n hx hb dL_law_979 rfl (lv_at hl 0 rfl) ?_
                                                              refine lv_iload_n hx hb dL_law_980 rfl (lv_at hl 3 rfl) ?_
                                                              refine lv_iconst (v := (1 : Int32)) hx hb dL_law_981 (by decide) ?_
                                                              refine lv_iadd hx hb dL_law_982 ?_
                                                              have hz := ix_e hf
                                                              have hf := hz.2
                                                              refine va_sld hx hb hX hbl hbA hh.2 hz.1 dL_law_983 ?_
                                                              refine lv_topi (fun x489 e490 => ?_)
                                                              have hf := lt_e e490 hf
                                                              refine lv_aload_n hx hb dL_law_984 rfl (lv_at hl 0 rfl) ?_
                                                              refine lv_iload_n hx hb dL_law_985 rfl (lv_at hl 3 rfl) ?_
                                                              refine lv_iconst (v := (2 : Int32)) hx hb dL_law_986 (by decide) ?_
                                                              refine lv_iadd hx hb dL_law_987 ?_
                                                              have hz := ix_e hf
                                                              have hf := hz.2
                                                              refine va_sld hx hb hX hbl hbA hh.2 hz.1 dL_law_988 ?_
                                                              refine lv_topi (fun x492 e493 => ?_)
                                                              have hf := lt_e e493 hf
                                                              obtain ⟨v495, hc494, hf⟩ := c1_e hf
                                                              refine q_V (w' := w2) (rest := [.int v487]) X hml hh (some (.int v495)) (m_X8_taken l B D hm0 hc494) cf_X8_taken k_967 hm0 ci_8 rfl rfl hl.1 rfl (Nat.le_of_ble_eq_true rfl) ⟨Nat.le_of_ble_eq_true rfl, Nat.le_of_ble_eq_true rfl⟩ ⟨Nat.le_of_ble_eq_true rfl, Nat.le_of_ble_eq_true rfl⟩ dL_law_989 rfl (fun H locs hh => ?_)
                                                              refine lv_icmp_eq (tgt := 1232) hx hb dL_law_992 (by decide) (fun hc496 => ?_) (fun hc496 => ?_)
                                                              · have hf := if_t hc496 hf
                                                                exact hj12 _ hf  _ _ _ hh (lv_sub hl [0, 1, 2, 3] rfl)
                                                              · have hf := if_f hc496 hf
                                                                refine lv_iconst (v := (0 : Int32)) hx hb dL_law_995 (by decide) ?_
                                                                exact absurd (so_e hf) (by decide)
                                                            · have hf := if_f hc479 hf
                                                              by_cases hc497 : x9.toInt = 28
                                                              · have hf := if_t hc497 hf
                                                                refine lv_tableIn (off := 965) (tgt := 997) hx hb dL_law_32 (by omega) (by omega) (by rw [hc497]; rfl) (by decide) ?_
                                                                refine lv_aload_n hx hb dL_law_997 rfl (lv_at hl 1 rfl) ?_
                                                                refine lv_aload_n hx hb dL_law_998 rfl (lv_at hl 0 rfl) ?_
                                                                refine lv_iload_n hx hb dL_law_999 rfl (lv_at hl 3 rfl) ?_
                                                                refine lv_iconst (v := (1 : Int32)) hx hb dL_law_1000 (by decide) ?_
                                                                refine lv_iadd hx hb dL_law_1001 ?_
                                                                have hz := ix_e hf
                                                                have hf := hz.2
                                                                refine va_sld hx hb hX hbl hbA hh.2 hz.1 dL_law_1002 ?_
                                                                refine lv_topi (fun x499 e500 => ?_)
                                                                have hf := lt_e e500 hf
                                                                refine lv_aload_n hx hb dL_law_1003 rfl (lv_at hl 0 rfl) ?_
                                                                refine lv_iload_n hx hb dL_law_1004 rfl (lv_at hl 3 rfl) ?_
                                                                refine lv_iconst (v := (2 : Int32)) hx hb dL_law_1005 (by decide) ?_
                                                                refine lv_iadd hx hb dL_law_1006 ?_
                                                                have hz := ix_e hf
                                                                have hf := hz.2
                                                                refine va_sld hx hb hX hbl hbA hh.2 hz.1 dL_law_1007 ?_
                                                                refine lv_topi (fun x502 e503 => ?_)
                                                                have hf := lt_e e503 hf
                                                                obtain ⟨v505, hc504, hf⟩ := c1_e hf
                                                                refine q_V (w' := w2) (rest := []) X hml hh (some (.int v505)) (m_X7_was l B D hg0 hc504) cf_X7_was k_620 hg0 ci_7 rfl rfl hl.1 rfl (Nat.le_of_ble_eq_true rfl) ⟨Nat.le_of_ble_eq_true rfl, Nat.le_of_ble_eq_true rfl⟩ ⟨Nat.le_of_ble_eq_true rfl, Nat.le_of_ble_eq_true rfl⟩ dL_law_1008 rfl (fun H locs hh => ?_)
                                                                refine lv_aload_n hx hb dL_law_1011 rfl (lv_at hl 2 rfl) ?_
                                                                refine lv_aload_n hx hb dL_law_1012 rfl (lv_at hl 0 rfl) ?_
                                                                refine lv_iload_n hx hb dL_law_1013 rfl (lv_at hl 3 rfl) ?_
                                                                refine lv_iconst (v := (1 : Int32)) hx hb dL_law_1014 (by decide) ?_
                                                                refine lv_iadd hx hb dL_law_1015 ?_
                                                                have hz := ix_e hf
                                                                have hf := hz.2
                                                                refine va_sld hx hb hX hbl hbA hh.2 hz.1 dL_law_1016 ?_
                                                                refine lv_topi (fun x507 e508 => ?_)
                                                                have hf := lt_e e508 hf
                                                                refine lv_aload_n hx hb dL_law_1017 rfl (lv_at hl 0 rfl) ?_
                                                                refine lv_iload_n hx hb dL_law_1018 rfl (lv_at hl 3 rfl) ?_
                                                                refine lv_iconst (v := (2 : Int32)) hx hb dL_law_1019 (by decide) ?_
                                                                refine lv_iadd hx hb dL_law_1020 ?_
                                                                have hz := ix_e hf
                                                                have hf := hz.2
                                                                refine va_sld hx hb hX hbl hbA hh.2 hz.1 dL_law_1021 ?_
                                                                refine lv_topi (fun x510 e511 => ?_)
                                                                have hf := lt_e e511 hf
                                                                obtain ⟨v513, hc512, hf⟩ := c1_e hf
                                                                refine q_V (w' := w2) (rest := [.int v505]) X hml hh (some (.int v513)) (m_X8_was l B D hm0 hc512) cf_X8_was k_971 hm0 ci_8 rfl rfl hl.1 rfl (Nat.le_of_ble_eq_true rfl) ⟨Nat.le_of_ble_eq_true rfl, Nat.le_of_ble_eq_true rfl⟩ ⟨Nat.le_of_ble_eq_true rfl, Nat.le_of_ble_eq_true rfl⟩ dL_law_1022 rfl (fun H locs hh => ?_)
                                                                refine lv_icmp_eq (tgt := 1232) hx hb dL_law_1025 (by decide) (fun hc514 => ?_) (fun hc514 => ?_)
                                                                · have hf := if_t hc514 hf
                                                                  exact hj12 _ hf  _ _ _ hh (lv_sub hl [0, 1, 2, 3] rfl)
                                                                · have hf := if_f hc514 hf
                                                                  refine lv_iconst (v := (0 : Int32)) hx hb dL_law_1028 (by decide) ?_
                                                                  exact absurd (so_e hf) (by decide)
                                                              · have hf := if_f hc497 hf
                                                                by_cases hc515 : x9.toInt = 29
                                                                · have hf := if_t hc515 hf
                                                                  refine lv_tableIn (off := 998) (tgt := 1030) hx hb dL_law_32 (by omega) (by omega) (by rw [hc515]; rfl) (by decide) ?_
                                                                  refine lv_aload_n hx hb dL_law_1030 rfl (lv_at hl 1 rfl) ?_
                                                                  refine lv_aload_n hx hb dL_law_1031 rfl (lv_at hl 0 rfl) ?_
                                                                  refine lv_iload_n hx hb dL_law_1032 rfl (lv_at hl 3 rfl) ?_
                                                                  refine lv_iconst (v := (1 : Int32)) hx hb dL_law_1033 (by decide) ?_
                                                                  refine lv_iadd hx hb dL_law_1034 ?_
                                                                  have hz := ix_e hf
                                                                  have hf := hz.2
                                                                  refine va_sld hx hb hX hbl hbA hh.2 hz.1 dL_law_1035 ?_
                                                                  refine lv_topi (fun x517 e518 => ?_)
                                                                  have hf := lt_e e518 hf
                                                                  refine lv_aload_n hx hb dL_law_1036 rfl (lv_at hl 0 rfl) ?_
                                                                  refine lv_iload_n hx hb dL_law_1037 rfl (lv_at hl 3 rfl) ?_
                                                                  refine lv_iconst (v := (2 : Int32)) hx hb dL_law_1038 (by decide) ?_
                                                                  refine lv_iadd hx hb dL_law_1039 ?_
                                                                  have hz := ix_e hf
                                                                  have hf := hz.2
                                                                  refine va_sld hx hb hX hbl hbA hh.2 hz.1 dL_law_1040 ?_
                                                                  refine lv_topi (fun x520 e521 => ?_)
                                                                  have hf := lt_e e521 hf
                                                                  obtain ⟨v523, w524, hc522, hf⟩ := c2_e hf
                                                                  refine q_V (w' := w524) (rest := []) X hml hh (some (.int v523)) (m_X7_row l B D hg0 hc522) cf_X7_row k_624 hg0 ci_7 rfl rfl hl.1 rfl (Nat.le_of_ble_eq_true rfl) ⟨Nat.le_of_ble_eq_true rfl, Nat.le_of_ble_eq_true rfl⟩ ⟨Nat.le_of_ble_eq_true rfl, Nat.le_of_ble_eq_true rfl⟩ dL_law_1041 rfl (fun H locs hh => ?_)
                                                                  refine lv_aload_n hx hb dL_law_1044 rfl (lv_at hl 2 rfl) ?_
                                                                  refine lv_aload_n hx hb dL_law_1045 rfl (lv_at hl 0 rfl) ?_
                                                                  refine lv_iload_n hx hb dL_law_1046 rfl (lv_at hl 3 rfl) ?_
                                                                  refine lv_iconst (v := (1 : Int32)) hx hb dL_law_1047 (by decide) ?_
                                                                  refine lv_iadd hx hb dL_law_1048 ?_
                                                                  have hz := ix_e hf
                                                                  have hf := hz.2
                                                                  refine va_sld hx hb hX hbl hbA hh.2 hz.1 dL_law_1049 ?_
                                                                  refine lv_topi (fun x526 e527 => ?_)
                                                                  have hf := lt_e e527 hf
                                                                  refine lv_aload_n hx hb dL_law_1050 rfl (lv_at hl 0 rfl) ?_
                                                                  refine lv_iload_n hx hb dL_law_1051 rfl (lv_at hl 3 rfl) ?_
                                                                  refine lv_iconst (v := (2 : Int32)) hx hb dL_law_1052 (by decide) ?_
                                                                  refine lv_iadd hx hb dL_law_1053 ?_
                                                                  have hz := ix_e hf
                                                                  have hf := hz.2
                                                                  refine va_sld hx hb hX hbl hbA hh.2 hz.1 dL_law_1054 ?_
                                                                  refine lv_topi (fun x529 e530 => ?_)
                                                                  have hf := lt_e e530 hf
                                                                  obtain ⟨v532, w533, hc531, hf⟩ := c2_e hf
                                                                  refine q_V (w' := w533) (rest := [.int v523]) X hml hh (some (.int v532)) (m_X8_row l B D hm0 hc531) cf_X8_row k_975 hm0 ci_8 rfl rfl hl.1 rfl (Nat.le_of_ble_eq_true rfl) ⟨Nat.le_of_ble_eq_true rfl, Nat.le_of_ble_eq_true rfl⟩ ⟨Nat.le_of_ble_eq_true rfl, Nat.le_of_ble_eq_true rfl⟩ dL_law_1055 rfl (fun H locs hh => ?_)
                                                                  refine lv_icmp_eq (tgt := 1232) hx hb dL_law_1058 (by decide) (fun hc534 => ?_) (fun hc534 => ?_)
                                                                  · have hf := if_t hc534 hf
                                                                    exact hj12 _ hf  _ _ _ hh (lv_sub hl [0, 1, 2, 3] rfl)
                                                                  · have hf := if_f hc534 hf
                                                                    refine lv_iconst (v := (0 : Int32)) hx hb dL_law_1061 (by decide) ?_
                                                                    exact absurd (so_e hf) (by decide)
                                                                · have hf := if_f hc515 hf
                                                                  by_cases hc535 : x9.toInt = 30
                                                                  · have hf := if_t hc535 hf
                                                                    refine lv_tableIn (off := 1031) (tgt := 1063) hx hb dL_law_32 (by omega) (by omega) (by rw [hc535]; rfl) (by decide) ?_
                                                                    refine lv_aload_n hx hb dL_law_1063 rfl (lv_at hl 1 rfl) ?_
                                                                    refine lv_aload_n hx hb dL_law_1064 rfl (lv_at hl 0 rfl) ?_
                                                                    refine lv_iload_n hx hb dL_law_1065 rfl (lv_at hl 3 rfl) ?_
                                                                    refine lv_iconst (v := (1 : Int32)) hx hb dL_law_1066 (by decide) ?_
                                                                    refine lv_iadd hx hb dL_law_1067 ?_
                                                                    have hz := ix_e hf
                                                                    have hf := hz.2
                                                                    refine va_sld hx hb hX hbl hbA hh.2 hz.1 dL_law_1068 ?_
                                                                    refine lv_topi (fun x537 e538 => ?_)
                                                                    have hf := lt_e e538 hf
                                                                    refine lv_aload_n hx hb dL_law_1069 rfl (lv_at hl 0 rfl) ?_
                                                                    refine lv_iload_n hx hb dL_law_1070 rfl (lv_at hl 3 rfl) ?_
                                                                    refine lv_iconst (v := (2 : Int32)) hx hb dL_law_1071 (by decide) ?_
                                                                    refine lv_iadd hx hb dL_law_1072 ?_
                                                                    have hz := ix_e hf
                                                                    have hf := hz.2
                                                                    refine va_sld hx hb hX hbl hbA hh.2 hz.1 dL_law_1073 ?_
                                                                    refine lv_topi (fun x540 e541 => ?_)
                                                                    have hf := lt_e e541 hf
                                                                    refine lv_aload_n hx hb dL_law_1074 rfl (lv_at hl 0 rfl) ?_
                                                                    refine lv_iload_n hx hb dL_law_1075 rfl (lv_at hl 3 rfl) ?_
                                                                    refine lv_iconst (v := (3 : Int32)) hx hb dL_law_1076 (by decide) ?_
                                                                    refine lv_iadd hx hb dL_law_1077 ?_
                                                                    have hz := ix_e hf
                                                                    have hf := hz.2
                                                                    refine va_sld hx hb hX hbl hbA hh.2 hz.1 dL_law_1078 ?_
                                                                    refine lv_topi (fun x543 e544 => ?_)
                                                                    have hf := lt_e e544 hf
                                                                    obtain ⟨v546, w547, hc545, hf⟩ := c2_e hf
                                                                    refine q_V (w' := w547) (rest := []) X hml hh (some (.int v546)) (m_X7_set l B D hg0 hc545) cf_X7_set k_632 hg0 ci_7 rfl rfl hl.1 rfl (Nat.le_of_ble_eq_true rfl) ⟨Nat.le_of_ble_eq_true rfl, Nat.le_of_ble_eq_true rfl⟩ ⟨Nat.le_of_ble_eq_true rfl, Nat.le_of_ble_eq_true rfl⟩ dL_law_1079 rfl (fun H locs hh => ?_)
                                                                    refine lv_aload_n hx hb dL_law_1082 rfl (lv_at hl 2 rfl) ?_
                                                                    refine lv_aload_n hx hb dL_law_1083 rfl (lv_at hl 0 rfl) ?_
                                                                    refine lv_iload_n hx hb dL_law_1084 rfl (lv_at hl 3 rfl) ?_
                                                                    refine lv_iconst (v := (1 : Int32)) hx hb dL_law_1085 (by decide) ?_
                                                                    refine lv_iadd hx hb dL_law_1086 ?_
                                                                    have hz := ix_e hf
                                                                    have hf := hz.2
                                                                    refine va_sld hx hb hX hbl hbA hh.2 hz.1 dL_law_1087 ?_
                                                                    refine lv_topi (fun x549 e550 => ?_)
                                                                    have hf := lt_e e550 hf
                                                                    refine lv_aload_n hx hb dL_law_1088 rfl (lv_at hl 0 rfl) ?_
                                                                    refine lv_iload_n hx hb dL_law_1089 rfl (lv_at hl 3 rfl) ?_
                                                                    refine lv_iconst (v := (2 : Int32)) hx hb dL_law_1090 (by decide) ?_
                                                                    refine lv_iadd hx hb dL_law_1091 ?_
                                                                    have hz := ix_e hf
                                                                    have hf := hz.2
                                                                    refine va_sld hx hb hX hbl hbA hh.2 hz.1 dL_law_1092 ?_
                                                                    refine lv_topi (fun x552 e553 => ?_)
                                                                    have hf := lt_e e553 hf
                                                                    refine lv_aload_n hx hb dL_law_1093 rfl (lv_at hl 0 rfl) ?_
                                                                    refine lv_iload_n hx hb dL_law_1094 rfl (lv_at hl 3 rfl) ?_
                                                                    refine lv_iconst (v := (3 : Int32)) hx hb dL_law_1095 (by decide) ?_
                                                                    refine lv_iadd hx hb dL_law_1096 ?_
                                                                    have hz := ix_e hf
                                                                    have hf := hz.2
                                                                    refine va_sld hx hb hX hbl hbA hh.2 hz.1 dL_law_1097 ?_
                                                                    refine lv_topi (fun x555 e556 => ?_)
                                                                    have hf := lt_e e556 hf
                                                                    obtain ⟨v558, w559, hc557, hf⟩ := c2_e hf
                                                                    refine q_V (w' := w559) (rest := [.int v546]) X hml hh (some (.int v558)) (m_X8_set l B D hm0 hc557) cf_X8_set k_979 hm0 ci_8 rfl rfl hl.1 rfl (Nat.le_of_ble_eq_true rfl) ⟨Nat.le_of_ble_eq_true rfl, Nat.le_of_ble_eq_true rfl⟩ ⟨Nat.le_of_ble_eq_true rfl, Nat.le_of_ble_eq_true rfl⟩ dL_law_1098 rfl (fun H locs hh => ?_)
                                                                    refine lv_icmp_eq (tgt := 1232) hx hb dL_law_1101 (by decide) (fun hc560 => ?_) (fun hc560 => ?_)
                                                                    · have hf := if_t hc560 hf
                                                                      exact hj12 _ hf  _ _ _ hh (lv_sub hl [0, 1, 2, 3] rfl)
                                                                    · have hf := if_f hc560 hf
                                                                      refine lv_iconst (v := (0 : Int32)) hx hb dL_law_1104 (by decide) ?_
                                                                      exact absurd (so_e hf) (by decide)
                                                                  · have hf := if_f hc535 hf
                                                                    by_cases hc561 : x9.toInt = 31
                                                                    · have hf := if_t hc561 hf
                                                                      refine lv_tableIn (off := 1074) (tgt := 1106) hx hb dL_law_32 (by omega) (by omega) (by rw [hc561]; rfl) (by decide) ?_
                                                                      refine lv_aload_n hx hb dL_law_1106 rfl (lv_at hl 1 rfl) ?_
                                                                      refine lv_aload_n hx hb dL_law_1107 rfl (lv_at hl 0 rfl) ?_
                                                                      refine lv_iload_n hx hb dL_law_1108 rfl (lv_at hl 3 rfl) ?_
                                                                      refine lv_iconst (v := (1 : Int32)) hx hb dL_law_1109 (by decide) ?_
                                                                      refine lv_iadd hx hb dL_law_1110 ?_
                                                                      have hz := ix_e hf
                                                                      have hf := hz.2
                                                                      refine va_sld hx hb hX hbl hbA hh.2 hz.1 dL_law_1111 ?_
                                                                      refine lv_topi (fun x563 e564 => ?_)
                                                                      have hf := lt_e e564 hf
                                                                      refine lv_aload_n hx hb dL_law_1112 rfl (lv_at hl 0 rfl) ?_
                                                                      refine lv_iload_n hx hb dL_law_1113 rfl (lv_at hl 3 rfl) ?_
                                                                      refine lv_iconst (v := (2 : Int32)) hx hb dL_law_1114 (by decide) ?_
                                                                      refine lv_iadd hx hb dL_law_1115 ?_
                                                                      have hz := ix_e hf
                                                                      have hf := hz.2
                                                                      refine va_sld hx hb hX hbl hbA hh.2 hz.1 dL_law_1116 ?_
                                                                      refine lv_topi (fun x566 e567 => ?_)
                                                                      have hf := lt_e e567 hf
                                                                      obtain ⟨v569, hc568, hf⟩ := c1_e hf
                                                                      refine q_V (w' := w2) (rest := []) X hml hh (some (.long v569)) (m_X7_get l B D hg0 hc568) cf_X7_get k_644 hg0 ci_7 rfl rfl hl.1 rfl (Nat.le_of_ble_eq_true rfl) ⟨Nat.le_of_ble_eq_true rfl, Nat.le_of_ble_eq_true rfl⟩ ⟨Nat.le_of_ble_eq_true rfl, Nat.le_of_ble_eq_true rfl⟩ dL_law_1117 rfl (fun H locs hh => ?_)
                                                                      refine lv_aload_n hx hb dL_law_1120 rfl (lv_at hl 2 rfl) ?_
                                                                      refine lv_aload_n hx hb dL_law_1121 rfl (lv_at hl 0 rfl) ?_
                                                                      refine lv_iload_n hx hb dL_law_1122 rfl (lv_at hl 3 rfl) ?_
                                                                      refine lv_iconst (v := (1 : Int32)) hx hb dL_law_1123 (by decide) ?_
                                                                      refine lv_iadd hx hb dL_law_1124 ?_
                                                                      have hz := ix_e hf
                                                                      have hf := hz.2
                                                                      refine va_sld hx hb hX hbl hbA hh.2 hz.1 dL_law_1125 ?_
                                                                      refine lv_topi (fun x571 e572 => ?_)
                                                                      have hf := lt_e e572 hf
                                                                      refine lv_aload_n hx hb dL_law_1126 rfl (lv_at hl 0 rfl) ?_
                                                                      refine lv_iload_n hx hb dL_law_1127 rfl (lv_at hl 3 rfl) ?_
                                                                      refine lv_iconst (v := (2 : Int32)) hx hb dL_law_1128 (by decide) ?_
                                                                      refine lv_iadd hx hb dL_law_1129 ?_
                                                                      have hz := ix_e hf
                                                                      have hf := hz.2
                                                                      refine va_sld hx hb hX hbl hbA hh.2 hz.1 dL_law_1130 ?_
                                                                      refine lv_topi (fun x574 e575 => ?_)
                                                                      have hf := lt_e e575 hf
                                                                      obtain ⟨v577, hc576, hf⟩ := c1_e hf
                                                                      refine q_V (w' := w2) (rest := [.long v569]) X hml hh (some (.long v577)) (m_X8_get l B D hm0 hc576) cf_X8_get k_987 hm0 ci_8 rfl rfl hl.1 rfl (Nat.le_of_ble_eq_true rfl) ⟨Nat.le_of_ble_eq_true rfl, Nat.le_of_ble_eq_true rfl⟩ ⟨Nat.le_of_ble_eq_true rfl, Nat.le_of_ble_eq_true rfl⟩ dL_law_1131 rfl (fun H locs hh => ?_)
                                                                      refine W.lcmp hx hb dL_law_1134 ?_
                                                                      refine lv_if_eq (tgt := 1232) hx hb dL_law_1135 (by decide) (fun hc578 => ?_) (fun hc578 => ?_)
                                                                      · have hf := if_t hc578 hf
                                                                        exact hj12 _ hf  _ _ _ hh (lv_sub hl [0, 1, 2, 3] rfl)
                                                                      · have hf := if_f hc578 hf
                                                                        refine lv_iconst (v := (0 : Int32)) hx hb dL_law_1138 (by decide) ?_
                                                                        exact absurd (so_e hf) (by decide)
                                                                    · have hf := if_f hc561 hf
                                                                      by_cases hc579 : x9.toInt = 32
                                                                      · have hf := if_t hc579 hf
                                                                        refine lv_tableIn (off := 1108) (tgt := 1140) hx hb dL_law_32 (by omega) (by omega) (by rw [hc579]; rfl) (by decide) ?_
                                                                        refine lv_aload_n hx hb dL_law_1140 rfl (lv_at hl 1 rfl) ?_
                                                                        refine lv_aload_n hx hb dL_law_1141 rfl (lv_at hl 0 rfl) ?_
                                                                        refine lv_iload_n hx hb dL_law_1142 rfl (lv_at hl 3 rfl) ?_
                                                                        refine lv_iconst (v := (1 : Int32)) hx hb dL_law_1143 (by decide) ?_
                                                                        refine lv_iadd hx hb dL_law_1144 ?_
                                                                        have hz := ix_e hf
                                                                        have hf := hz.2
                                                                        refine va_sld hx hb hX hbl hbA hh.2 hz.1 dL_law_1145 ?_
                                                                        refine lv_topi (fun x581 e582 => ?_)
                                                                        have hf := lt_e e582 hf
                                                                        refine lv_aload_n hx hb dL_law_1146 rfl (lv_at hl 0 rfl) ?_
                                                                        refine lv_iload_n hx hb dL_law_1147 rfl (lv_at hl 3 rfl) ?_
                                                                        refine lv_iconst (v := (2 : Int32)) hx hb dL_law_1148 (by decide) ?_
                                                                        refine lv_iadd hx hb dL_law_1149 ?_
                                                                        have hz := ix_e hf
                                                                        have hf := hz.2
                                                                        refine va_sld hx hb hX hbl hbA hh.2 hz.1 dL_law_1150 ?_
                                                                        refine lv_topi (fun x584 e585 => ?_)
                                                                        have hf := lt_e e585 hf
                                                                        refine lv_aload_n hx hb dL_law_1151 rfl (lv_at hl 0 rfl) ?_
                                                                        refine lv_iload_n hx hb dL_law_1152 rfl (lv_at hl 3 rfl) ?_
                                                                        refine lv_iconst (v := (3 : Int32)) hx hb dL_law_1153 (by decide) ?_
                                                                        refine lv_iadd hx hb dL_law_1154 ?_
                                                                        have hz := ix_e hf
                                                                        have hf := hz.2
                                                                        refine va_sld hx hb hX hbl hbA hh.2 hz.1 dL_law_1155 ?_
                                                                        refine lv_topi (fun x587 e588 => ?_)
                                                                        have hf := lt_e e588 hf
                                                                        obtain ⟨v590, w591, hc589, hf⟩ := c2_e hf
                                                                        refine q_V (w' := w591) (rest := []) X hml hh (some (.int v590)) (m_X7_judge l B D hg0 hc589) cf_X7_judge k_648 hg0 ci_7 rfl rfl hl.1 rfl (Nat.le_of_ble_eq_true rfl) ⟨Nat.le_of_ble_eq_true rfl, Nat.le_of_ble_eq_true rfl⟩ ⟨Nat.le_of_ble_eq_true rfl, Nat.le_of_ble_eq_true rfl⟩ dL_law_1156 rfl (fun H locs hh => ?_)
                                                                        refine lv_aload_n hx hb dL_law_1159 rfl (lv_at hl 2 rfl) ?_
                                                                        refine lv_aload_n hx hb dL_law_1160 rfl (lv_at hl 0 rfl) ?_
                                                                        refine lv_iload_n hx hb dL_law_1161 rfl (lv_at hl 3 rfl) ?_
                                                                        refine lv_iconst (v := (1 : Int32)) hx hb dL_law_1162 (by decide) ?_
                                                                        refine lv_iadd hx hb dL_law_1163 ?_
                                                                        have hz := ix_e hf
                                                                        have hf := hz.2
                                                                        refine va_sld hx hb hX hbl hbA hh.2 hz.1 dL_law_1164 ?_
                                                                        refine lv_topi (fun x593 e594 => ?_)
                                                                        have hf := lt_e e594 hf
                                                                        refine lv_aload_n hx hb dL_law_1165 rfl (lv_at hl 0 rfl) ?_
                                                                        refine lv_iload_n hx hb dL_law_1166 rfl (lv_at hl 3 rfl) ?_
                                                                        refine lv_iconst (v := (2 : Int32)) hx hb dL_law_1167 (by decide) ?_
                                                                        refine lv_iadd hx hb dL_law_1168 ?_
                                                                        have hz := ix_e hf
                                                                        have hf := hz.2
                                                                        refine va_sld hx hb hX hbl hbA hh.2 hz.1 dL_law_1169 ?_
                                                                        refine lv_topi (fun x596 e597 => ?_)
                                                                        have hf := lt_e e597 hf
                                                                        refine lv_aload_n hx hb dL_law_1170 rfl (lv_at hl 0 rfl) ?_
                                                                        refine lv_iload_n hx hb dL_law_1171 rfl (lv_at hl 3 rfl) ?_
                                                                        refine lv_iconst (v := (3 : Int32)) hx hb dL_law_1172 (by decide) ?_
                                                                        refine lv_iadd hx hb dL_law_1173 ?_
                                                                        have hz := ix_e hf
                                                                        have hf := hz.2
                                                                        refine va_sld hx hb hX hbl hbA hh.2 hz.1 dL_law_1174 ?_
                                                                        refine lv_topi (fun x599 e600 => ?_)
                                                                        have hf := lt_e e600 hf
                                                                        obtain ⟨v602, w603, hc601, hf⟩ := c2_e hf
                                                                        refine q_V (w' := w603) (rest := [.int v590]) X hml hh (some (.int v602)) (m_X8_judge l B D hm0 hc601) cf_X8_judge k_991 hm0 ci_8 rfl rfl hl.1 rfl (Nat.le_of_ble_eq_true rfl) ⟨Nat.le_of_ble_eq_true rfl, Nat.le_of_ble_eq_true rfl⟩ ⟨Nat.le_of_ble_eq_true rfl, Nat.le_of_ble_eq_true rfl⟩ dL_law_1175 rfl (fun H locs hh => ?_)
                                                                        refine lv_icmp_eq (tgt := 1232) hx hb dL_law_1178 (by decide) (fun hc604 => ?_) (fun hc604 => ?_)
                                                                        · have hf := if_t hc604 hf
                                                                          exact hj12 _ hf  _ _ _ hh (lv_sub hl [0, 1, 2, 3] rfl)
                                                                        · have hf := if_f hc604 hf
                                                                          refine lv_iconst (v := (0 : Int32)) hx hb dL_law_1181 (by decide) ?_
                                                                          exact absurd (so_e hf) (by decide)
                                                                      · have hf := if_f hc579 hf
                                                                        by_cases hc605 : x9.toInt = 33
                                                                        · have hf := if_t hc605 hf
                                                                          refine lv_tableIn (off := 1151) (tgt := 1183) hx hb dL_law_32 (by omega) (by omega) (by rw [hc605]; rfl) (by decide) ?_
                                                                          refine lv_aload_n hx hb dL_law_1183 rfl (lv_at hl 1 rfl) ?_
                                                                          obtain ⟨v607, w608, hc606, hf⟩ := c2_e hf
                                                                          refine q_V (w' := w608) (rest := []) X hml hh (some (.int v607)) (m_X7_image l B D hg0 hc606) cf_X7_image k_659 hg0 ci_7 rfl rfl hl.1 rfl (Nat.le_of_ble_eq_true rfl) ⟨Nat.le_of_ble_eq_true rfl, Nat.le_of_ble_eq_true rfl⟩ ⟨Nat.le_of_ble_eq_true rfl, Nat.le_of_ble_eq_true rfl⟩ dL_law_1184 rfl (fun H locs hh => ?_)
                                                                          refine lv_aload_n hx hb dL_law_1187 rfl (lv_at hl 2 rfl) ?_
                                                                          obtain ⟨v610, w611, hc609, hf⟩ := c2_e hf
                                                                          refine q_V (w' := w611) (rest := [.int v607]) X hml hh (some (.int v610)) (m_X8_image l B D hm0 hc609) cf_X8_image k_995 hm0 ci_8 rfl rfl hl.1 rfl (Nat.le_of_ble_eq_true rfl) ⟨Nat.le_of_ble_eq_true rfl, Nat.le_of_ble_eq_true rfl⟩ ⟨Nat.le_of_ble_eq_true rfl, Nat.le_of_ble_eq_true rfl⟩ dL_law_1188 rfl (fun H locs hh => ?_)
                                                                          refine lv_icmp_eq (tgt := 1232) hx hb dL_law_1191 (by decide) (fun hc612 => ?_) (fun hc612 => ?_)
                                                                          · have hf := if_t hc612 hf
                                                                            exact hj12 _ hf  _ _ _ hh (lv_sub hl [0, 1, 2, 3] rfl)
                                                                          · have hf := if_f hc612 hf
                                                                            refine lv_iconst (v := (0 : Int32)) hx hb dL_law_1194 (by decide) ?_
                                                                            exact absurd (so_e hf) (by decide)
                                                                        · have hf := if_f hc605 hf
                                                                          by_cases hc613 : x9.toInt = 34
                                                                          · have hf := if_t hc613 hf
                                                                            refine lv_tableIn (off := 1164) (tgt := 1196) hx hb dL_law_32 (by omega) (by omega) (by rw [hc613]; rfl) (by decide) ?_
                                                                            refine lv_aload_n hx hb dL_law_1196 rfl (lv_at hl 1 rfl) ?_
                                                                            obtain ⟨v615, w616, hc614, hf⟩ := c2_e hf
                                                                            refine q_V (w' := w616) (rest := []) X hml hh (some (.int v615)) (m_X7_restore l B D hg0 hc614) cf_X7_restore k_663 hg0 ci_7 rfl rfl hl.1 rfl (Nat.le_of_ble_eq_true rfl) ⟨Nat.le_of_ble_eq_true rfl, Nat.le_of_ble_eq_true rfl⟩ ⟨Nat.le_of_ble_eq_true rfl, Nat.le_of_ble_eq_true rfl⟩ dL_law_1197 rfl (fun H locs hh => ?_)
                                                                            refine lv_aload_n hx hb dL_law_1200 rfl (lv_at hl 2 rfl) ?_
                                                                            obtain ⟨v618, w619, hc617, hf⟩ := c2_e hf
                                                                            refine q_V (w' := w619) (rest := [.int v615]) X hml hh (some (.int v618)) (m_X8_restore l B D hm0 hc617) cf_X8_restore k_999 hm0 ci_8 rfl rfl hl.1 rfl (Nat.le_of_ble_eq_true rfl) ⟨Nat.le_of_ble_eq_true rfl, Nat.le_of_ble_eq_true rfl⟩ ⟨Nat.le_of_ble_eq_true rfl, Nat.le_of_ble_eq_true rfl⟩ dL_law_1201 rfl (fun H locs hh => ?_)
                                                                            refine lv_icmp_eq (tgt := 1232) hx hb dL_law_1204 (by decide) (fun hc620 => ?_) (fun hc620 => ?_)
                                                                            · have hf := if_t hc620 hf
                                                                              exact hj12 _ hf  _ _ _ hh (lv_sub hl [0, 1, 2, 3] rfl)
                                                                            · have hf := if_f hc620 hf
                                                                              refine lv_iconst (v := (0 : Int32)) hx hb dL_law_1207 (by decide) ?_
                                                                              exact absurd (so_e hf) (by decide)
                                                                          · have hf := if_f hc613 hf
                                                                            by_cases hc621 : x9.toInt = 35
                                                                            · have hf := if_t hc621 hf
                                                                              refine lv_tableIn (off := 1177) (tgt := 1209) hx hb dL_law_32 (by omega) (by omega) (by rw [hc621]; rfl) (by decide) ?_
                                                                              refine lv_aload_n hx hb dL_law_1209 rfl (lv_at hl 1 rfl) ?_
                                                                              refine lv_aload_n hx hb dL_law_1210 rfl (lv_at hl 0 rfl) ?_
                                                                              refine lv_iload_n hx hb dL_law_1211 rfl (lv_at hl 3 rfl) ?_
                                                                              refine lv_iconst (v := (1 : Int32)) hx hb dL_law_1212 (by decide) ?_
                                                                              refine lv_iadd hx hb dL_law_1213 ?_
                                                                              have hz := ix_e hf
                                                                              have hf := hz.2
                                                                              refine va_sld hx hb hX hbl hbA hh.2 hz.1 dL_law_1214 ?_
                                                                              refine lv_topi (fun x623 e624 => ?_)
                                                                              have hf := lt_e e624 hf
                                                                              obtain ⟨v626, hc625, hf⟩ := c1_e hf
                                                                              refine q_V (w' := w2) (rest := []) X hml hh (some (.int v626)) (m_X7_count l B D hg0 hc625) cf_X7_count k_671 hg0 ci_7 rfl rfl hl.1 rfl (Nat.le_of_ble_eq_true rfl) ⟨Nat.le_of_ble_eq_true rfl, Nat.le_of_ble_eq_true rfl⟩ ⟨Nat.le_of_ble_eq_true rfl, Nat.le_of_ble_eq_true rfl⟩ dL_law_1215 rfl (fun H locs hh => ?_)
                                                                              refine lv_aload_n hx hb dL_law_1218 rfl (lv_at hl 2 rfl) ?_
                                                                              refine lv_aload_n hx hb dL_law_1219 rfl (lv_at hl 0 rfl) ?_
                                                                              refine lv_iload_n hx hb dL_law_1220 rfl (lv_at hl 3 rfl) ?_
                                                                              refine lv_iconst (v := (1 : Int32)) hx hb dL_law_1221 (by decide) ?_
                                                                              refine lv_iadd hx hb dL_law_1222 ?_
                                                                              have hz := ix_e hf
                                                                              have hf := hz.2
                                                                              refine va_sld hx hb hX hbl hbA hh.2 hz.1 dL_law_1223 ?_
                                                                              refine lv_topi (fun x628 e629 => ?_)
                                                                              have hf := lt_e e629 hf
                                                                              obtain ⟨v631, hc630, hf⟩ := c1_e hf
                                                                              refine q_V (w' := w2) (rest := [.int v626]) X hml hh (some (.int v631)) (m_X8_count l B D hm0 hc630) cf_X8_count k_1003 hm0 ci_8 rfl rfl hl.1 rfl (Nat.le_of_ble_eq_true rfl) ⟨Nat.le_of_ble_eq_true rfl, Nat.le_of_ble_eq_true rfl⟩ ⟨Nat.le_of_ble_eq_true rfl, Nat.le_of_ble_eq_true rfl⟩ dL_law_1224 rfl (fun H locs hh => ?_)
                                                                              refine lv_icmp_eq (tgt := 1232) hx hb dL_law_1227 (by decide) (fun hc632 => ?_) (fun hc632 => ?_)
                                                                              · have hf := if_t hc632 hf
                                                                                exact hj12 _ hf  _ _ _ hh (lv_sub hl [0, 1, 2, 3] rfl)
                                                                              · have hf := if_f hc632 hf
                                                                                refine lv_iconst (v := (0 : Int32)) hx hb dL_law_1230 (by decide) ?_
                                                                                exact absurd (so_e hf) (by decide)
                                                                            · have hf := if_f hc621 hf
                                                                              refine lv_tableOut (tgt := 1232) hx hb dL_law_32 (by omega) (by decide) ?_
                                                                              exact hj12 _ hf  _ _ _ hh (lv_sub hl [0, 1, 2, 3] rfl)
set_option maxHeartbeats 4000000 in
set_option maxRecDepth 100000 in
theorem m_law (l : Launch) {p : Program} {e : Env} {s : State} {m : MethodId} {below : List Frame} {meth : Method} {c : Code} {b L : Nat} {xs : Nat → Int32} {D : DD} (X : Cx p s m #[Value.ref b] c code "GrowthGridLaw" D) (hml : c.maxLocals = 4) (hr : meth.sig.returnType = ret) (hlk : meth.locks = false) (hX : va_X b L xs s s.heap) (hbl : b < s.heap.size) (hf : f_law L xs = some (1 : Int32)) : W p l e room_1 s m #[Value.ref b] below meth c s.heap [] 0 0 (lw_Z below #[Value.ref b] s) (entryFrame m ([Value.ref b] : List Value).toArray 4) := by
  have hx := X.1
  have hb := X.2.1
  have hbA : ¬ (fun q : Nat => s.heap.size ≤ q) b := Nat.not_le.mpr hbl
  have hl := lv_entry ([.ref b]) (n := 4) (Nat.le_of_ble_eq_true rfl)
  rw [lg_entry_eq]
  generalize (lg_sl ([.ref b]) ++ List.replicate (4 - (lg_sl ([.ref b])).length) Slot.unset).toArray = ls at hl ⊢
  have hl : lv_has ls 4 [(0, .ref b)] := hl
  have hh : Hp s.heap.size D 0 w00 s s.heap [] := ⟨⟨rfl, fun k hk => absurd hk (Nat.not_lt_zero k)⟩, va_S.rf⟩
  obtain ⟨B, hB⟩ : ∃ B, B = s.heap.size := ⟨_, rfl⟩
  have hBs := hB
  rw [← hB] at hh hbA
  generalize hH0 : s.heap = H0 at hh
  generalize hL0 : ([] : List Loc) = locs at hh
  refine W.widen (k := 0 - 0) (n := 2880 * (0 - 0)) (Nat.zero_le _) (Nat.zero_le _) ?_
  have hRR : 0 + 153 ≤ 0 + room_1.cells ∧ 2880 * (0 + 153 - 0) ≤ room_1.slots := ⟨Nat.le_of_ble_eq_true rfl, Nat.le_of_ble_eq_true rfl⟩
  unfold f_law at hf
  refine r_new (n0 := 0) X hh ci_7 cin_7 k_47 k_48 k_36 (by omega) hRR dL_law_0 hf (fun n1 w1 H e1 h1 hf hh => ?_)
  refine lv_dup hx hb dL_law_3 rfl ?_
  obtain ⟨w2, hc2, hf⟩ := c1_e hf
  refine q_I (n0 := 0) (rest := [.ref (B + 0)]) X hml hh rfl (m_X7_init l B D h1 hc2) cf_X7_init k_49 hl.1 (Nat.le_of_ble_eq_true rfl) ⟨Nat.le_of_ble_eq_true rfl, Nat.le_of_ble_eq_true rfl⟩ (by omega) hRR dL_law_4 hf (fun n2 w3 H locs e2 hf hh => ?_)
  refine lv_astore_n (lv' := [(1, .ref (B + 0)), (0, .ref b)]) hx hb dL_law_7 rfl hl (by decide) rfl (fun ls hl => ?_)
  refine r_new (n0 := 0) X hh ci_8 cin_8 k_679 k_680 k_44 (by omega) hRR dL_law_8 hf (fun n3 w4 H e3 h3 hf hh => ?_)
  refine lv_dup hx hb dL_law_11 rfl ?_
  obtain ⟨w5, hc5, hf⟩ := c1_e hf
  refine q_I (n0 := 0) (rest := [.ref (B + n2)]) X hml hh rfl (m_X8_init l B D h3 hc5) cf_X8_init k_681 hl.1 (Nat.le_of_ble_eq_true rfl) ⟨Nat.le_of_ble_eq_true rfl, Nat.le_of_ble_eq_true rfl⟩ (by omega) hRR dL_law_12 hf (fun n4 w6 H locs e4 hf hh => ?_)
  refine lv_astore_n (lv' := [(2, .ref (B + n2)), (1, .ref (B + 0)), (0, .ref b)]) hx hb dL_law_15 rfl hl (by decide) rfl (fun ls hl => ?_)
  refine lv_iconst (v := (0 : Int32)) hx hb dL_law_16 (by decide) ?_
  refine lv_istore_n (lv' := [(3, .int (0 : Int32)), (2, .ref (B + n2)), (1, .ref (B + 0)), (0, .ref b)]) hx hb dL_law_17 rfl hl (by decide) rfl (fun ls hl => ?_)
  have en2 : n2 = 139 := by omega
  have en4 : n4 = 153 := by omega
  rw [en4] at hh ⊢
  rw [en2] at hl
  exact m_loop l X hml hr hlk hX hbl hbA hBs hf hh hl
