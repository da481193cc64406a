/-! THE LAW: what it does in each case. -/
set_option maxRecDepth 40000 in
theorem lw_280 {d L : Nat} {b : Bool} {I : Nat → Nat → Int32} {J : Nat → Nat → Int64} {x3 : Int32} {Q : Int32 → Int64 → pm_H → Prop} : pm_wp pm_code pm_meta (d + 1) 317 280 ([.ref 1, .ref 8, .ref 79, .int x3], [], (pm_Gb L b, I, J)) Q ↔ pm_in (x3 + 1) L = true ∧ (pm_wc pm_code pm_meta d 115 [.ref 8, .int (I 1 (x3 + 1).toNatClampNeg)] (pm_Gb L b, I, J) (fun v w H => pm_wp pm_code pm_meta (d + 1) 317 289 ([.ref 1, .ref 8, .ref 79, .int x3], [.int v], H) Q)) := (pm_bk_iff pc_ch_317 7 280 _).trans (and_congr Iff.rfl (Iff.rfl))
set_option maxRecDepth 40000 in
theorem lx_289 {d L nx sl : Nat} {T : Nat → Nat × Nat} {O : Nat → Nat → Nat} {I : Nat → Nat → Int32} {J : Nat → Nat → Int64} {x3 s0 : Int32} {Q : Int32 → Int64 → pm_H → Prop} : pm_wp pm_code pm_meta (d + 1) 317 289 ([.ref 1, .ref 8, .ref 79, .int x3], [.int s0], ((pm_t (pm_t T 79 (0, 11)) 1 (1, L), O, nx, sl), I, J)) Q ↔ pm_in (x3 + 1) L = true ∧ (pm_wc pm_code pm_meta d 193 [.ref 79, .int (I 1 (x3 + 1).toNatClampNeg)] ((pm_t (pm_t T 79 (0, 11)) 1 (1, L), O, nx, sl), I, J) (fun v w H => pm_wp pm_code pm_meta (d + 1) 317 298 ([.ref 1, .ref 8, .ref 79, .int x3], [.int v, .int s0], H) Q)) := (pm_bk_iff pc_ch_317 7 289 _).trans (and_congr Iff.rfl (Iff.rfl))
set_option maxRecDepth 40000 in
theorem ly_298 {d L : Nat} {b : Bool} {I : Nat → Nat → Int32} {J : Nat → Nat → Int64} {x3 s0 s1 : Int32} {Q : Int32 → Int64 → pm_H → Prop} : pm_wp pm_code pm_meta d 317 298 ([.ref 1, .ref 8, .ref 79, .int x3], [.int s1, .int s0], (pm_Gb L b, I, J)) Q ↔ if s0 = s1 then pm_wp pm_code pm_meta d 317 2180 ([.ref 1, .ref 8, .ref 79, .int x3], [], (pm_Gb L b, I, J)) Q else pm_wp pm_code pm_meta d 317 301 ([.ref 1, .ref 8, .ref 79, .int x3], [], (pm_Gb L b, I, J)) Q := (pm_bk_iff pc_ch_317 1 298 _).trans (pm_brd)
set_option maxRecDepth 40000 in
theorem lw_303 {d L : Nat} {b : Bool} {I : Nat → Nat → Int32} {J : Nat → Nat → Int64} {x3 : Int32} {Q : Int32 → Int64 → pm_H → Prop} : pm_wp pm_code pm_meta (d + 1) 317 303 ([.ref 1, .ref 8, .ref 79, .int x3], [], (pm_Gb L b, I, J)) Q ↔ pm_in (x3 + 1) L = true ∧ (pm_in (x3 + 2) L = true ∧ (pm_in (x3 + 3) L = true ∧ (pm_wc pm_code pm_meta d 116 [.ref 8, .int (I 1 (x3 + 1).toNatClampNeg), .int (I 1 (x3 + 2).toNatClampNeg), .int (I 1 (x3 + 3).toNatClampNeg)] (pm_Gb L b, I, J) (fun v w H => pm_wp pm_code pm_meta (d + 1) 317 322 ([.ref 1, .ref 8, .ref 79, .int x3], [.int v], H) Q)))) := (pm_bk_iff pc_ch_317 17 303 _).trans (and_congr Iff.rfl (and_congr Iff.rfl (and_congr Iff.rfl (Iff.rfl))))
set_option maxRecDepth 40000 in
theorem lx_322 {d L nx sl : Nat} {T : Nat → Nat × Nat} {O : Nat → Nat → Nat} {I : Nat → Nat → Int32} {J : Nat → Nat → Int64} {x3 s0 : Int32} {Q : Int32 → Int64 → pm_H → Prop} : pm_wp pm_code pm_meta (d + 1) 317 322 ([.ref 1, .ref 8, .ref 79, .int x3], [.int s0], ((pm_t (pm_t T 79 (0, 11)) 1 (1, L), O, nx, sl), I, J)) Q ↔ pm_in (x3 + 1) L = true ∧ (pm_in (x3 + 2) L = true ∧ (pm_in (x3 + 3) L = true ∧ (pm_wc pm_code pm_meta d 194 [.ref 79, .int (I 1 (x3 + 1).toNatClampNeg), .int (I 1 (x3 + 2).toNatClampNeg), .int (I 1 (x3 + 3).toNatClampNeg)] ((pm_t (pm_t T 79 (0, 11)) 1 (1, L), O, nx, sl), I, J) (fun v w H => pm_wp pm_code pm_meta (d + 1) 317 341 ([.ref 1, .ref 8, .ref 79, .int x3], [.int v, .int s0], H) Q)))) := (pm_bk_iff pc_ch_317 17 322 _).trans (and_congr Iff.rfl (and_congr Iff.rfl (and_congr Iff.rfl (Iff.rfl))))
set_option maxRecDepth 40000 in
theorem ly_341 {d L : Nat} {b : Bool} {I : Nat → Nat → Int32} {J : Nat → Nat → Int64} {x3 s0 s1 : Int32} {Q : Int32 → Int64 → pm_H → Prop} : pm_wp pm_code pm_meta d 317 341 ([.ref 1, .ref 8, .ref 79, .int x3], [.int s1, .int s0], (pm_Gb L b, I, J)) Q ↔ if s0 = s1 then pm_wp pm_code pm_meta d 317 2180 ([.ref 1, .ref 8, .ref 79, .int x3], [], (pm_Gb L b, I, J)) Q else pm_wp pm_code pm_meta d 317 344 ([.ref 1, .ref 8, .ref 79, .int x3], [], (pm_Gb L b, I, J)) Q := (pm_bk_iff pc_ch_317 1 341 _).trans (pm_brd)
set_option maxRecDepth 40000 in
theorem lw_346 {d L : Nat} {b : Bool} {I : Nat → Nat → Int32} {J : Nat → Nat → Int64} {x3 : Int32} {Q : Int32 → Int64 → pm_H → Prop} : pm_wp pm_code pm_meta (d + 1) 317 346 ([.ref 1, .ref 8, .ref 79, .int x3], [], (pm_Gb L b, I, J)) Q ↔ pm_in (x3 + 1) L = true ∧ (pm_wc pm_code pm_meta d 117 [.ref 8, .int (I 1 (x3 + 1).toNatClampNeg)] (pm_Gb L b, I, J) (fun v w H => pm_wp pm_code pm_meta (d + 1) 317 355 ([.ref 1, .ref 8, .ref 79, .int x3], [.int v], H) Q)) := (pm_bk_iff pc_ch_317 7 346 _).trans (and_congr Iff.rfl (Iff.rfl))
set_option maxRecDepth 40000 in
theorem lx_355 {d L nx sl : Nat} {T : Nat → Nat × Nat} {O : Nat → Nat → Nat} {I : Nat → Nat → Int32} {J : Nat → Nat → Int64} {x3 s0 : Int32} {Q : Int32 → Int64 → pm_H → Prop} : pm_wp pm_code pm_meta (d + 1) 317 355 ([.ref 1, .ref 8, .ref 79, .int x3], [.int s0], ((pm_t (pm_t T 79 (0, 11)) 1 (1, L), O, nx, sl), I, J)) Q ↔ pm_in (x3 + 1) L = true ∧ (pm_wc pm_code pm_meta d 195 [.ref 79, .int (I 1 (x3 + 1).toNatClampNeg)] ((pm_t (pm_t T 79 (0, 11)) 1 (1, L), O, nx, sl), I, J) (fun v w H => pm_wp pm_code pm_meta (d + 1) 317 364 ([.ref 1, .ref 8, .ref 79, .int x3], [.int v, .int s0], H) Q)) := (pm_bk_iff pc_ch_317 7 355 _).trans (and_congr Iff.rfl (Iff.rfl))
set_option maxRecDepth 40000 in
theorem ly_364 {d L : Nat} {b : Bool} {I : Nat → Nat → Int32} {J : Nat → Nat → Int64} {x3 s0 s1 : Int32} {Q : Int32 → Int64 → pm_H → Prop} : pm_wp pm_code pm_meta d 317 364 ([.ref 1, .ref 8, .ref 79, .int x3], [.int s1, .int s0], (pm_Gb L b, I, J)) Q ↔ if s0 = s1 then pm_wp pm_code pm_meta d 317 2180 ([.ref 1, .ref 8, .ref 79, .int x3], [], (pm_Gb L b, I, J)) Q else pm_wp pm_code pm_meta d 317 367 ([.ref 1, .ref 8, .ref 79, .int x3], [], (pm_Gb L b, I, J)) Q := (pm_bk_iff pc_ch_317 1 364 _).trans (pm_brd)
set_option maxRecDepth 40000 in
theorem lw_369 {d L : Nat} {b : Bool} {I : Nat → Nat → Int32} {J : Nat → Nat → Int64} {x3 : Int32} {Q : Int32 → Int64 → pm_H → Prop} : pm_wp pm_code pm_meta (d + 1) 317 369 ([.ref 1, .ref 8, .ref 79, .int x3], [], (pm_Gb L b, I, J)) Q ↔ pm_in (x3 + 1) L = true ∧ (pm_in (x3 + 2) L = true ∧ (pm_wc pm_code pm_meta d 118 [.ref 8, .int (I 1 (x3 + 1).toNatClampNeg), .int (I 1 (x3 + 2).toNatClampNeg)] (pm_Gb L b, I, J) (fun v w H => pm_wp pm_code pm_meta (d + 1) 317 383 ([.ref 1, .ref 8, .ref 79, .int x3], [.int v], H) Q))) := (pm_bk_iff pc_ch_317 12 369 _).trans (and_congr Iff.rfl (and_congr Iff.rfl (Iff.rfl)))
set_option maxRecDepth 40000 in
theorem lx_383 {d L nx sl : Nat} {T : Nat → Nat × Nat} {O : Nat → Nat → Nat} {I : Nat → Nat → Int32} {J : Nat → Nat → Int64} {x3 s0 : Int32} {Q : Int32 → Int64 → pm_H → Prop} : pm_wp pm_code pm_meta (d + 1) 317 383 ([.ref 1, .ref 8, .ref 79, .int x3], [.int s0], ((pm_t (pm_t T 79 (0, 11)) 1 (1, L), O, nx, sl), I, J)) Q ↔ pm_in (x3 + 1) L = true ∧ (pm_in (x3 + 2) L = true ∧ (pm_wc pm_code pm_meta d 196 [.ref 79, .int (I 1 (x3 + 1).toNatClampNeg), .int (I 1 (x3 + 2).toNatClampNeg)] ((pm_t (pm_t T 79 (0, 11)) 1 (1, L), O, nx, sl), I, J) (fun v w H => pm_wp pm_code pm_meta (d + 1) 317 397 ([.ref 1, .ref 8, .ref 79, .int x3], [.int v, .int s0], H) Q))) := (pm_bk_iff pc_ch_317 12 383 _).trans (and_congr Iff.rfl (and_congr Iff.rfl (Iff.rfl)))
set_option maxRecDepth 40000 in
theorem ly_397 {d L : Nat} {b : Bool} {I : Nat → Nat → Int32} {J : Nat → Nat → Int64} {x3 s0 s1 : Int32} {Q : Int32 → Int64 → pm_H → Prop} : pm_wp pm_code pm_meta d 317 397 ([.ref 1, .ref 8, .ref 79, .int x3], [.int s1, .int s0], (pm_Gb L b, I, J)) Q ↔ if s0 = s1 then pm_wp pm_code pm_meta d 317 2180 ([.ref 1, .ref 8, .ref 79, .int x3], [], (pm_Gb L b, I, J)) Q else pm_wp pm_code pm_meta d 317 400 ([.ref 1, .ref 8, .ref 79, .int x3], [], (pm_Gb L b, I, J)) Q := (pm_bk_iff pc_ch_317 1 397 _).trans (pm_brd)
set_option maxRecDepth 40000 in
theorem lw_402 {d L : Nat} {b : Bool} {I : Nat → Nat → Int32} {J : Nat → Nat → Int64} {x3 : Int32} {Q : Int32 → Int64 → pm_H → Prop} : pm_wp pm_code pm_meta (d + 1) 317 402 ([.ref 1, .ref 8, .ref 79, .int x3], [], (pm_Gb L b, I, J)) Q ↔ pm_in (x3 + 1) L = true ∧ (pm_in (x3 + 2) L = true ∧ (pm_in (x3 + 3) L = true ∧ (pm_in (x3 + 4) L = true ∧ (pm_wc pm_code pm_meta d 119 [.ref 8, .int (I 1 (x3 + 1).toNatClampNeg), .int (I 1 (x3 + 2).toNatClampNeg), .int (I 1 (x3 + 3).toNatClampNeg), .int (I 1 (x3 + 4).toNatClampNeg)] (pm_Gb L b, I, J) (fun v w H => pm_wp pm_code pm_meta (d + 1) 317 426 ([.ref 1, .ref 8, .ref 79, .int x3], [.int v], H) Q))))) := (pm_bk_iff pc_ch_317 22 402 _).trans (and_congr Iff.rfl (and_congr Iff.rfl (and_congr Iff.rfl (and_congr Iff.rfl (Iff.rfl)))))
set_option maxRecDepth 40000 in
theorem lx_426 {d L nx sl : Nat} {T : Nat → Nat × Nat} {O : Nat → Nat → Nat} {I : Nat → Nat → Int32} {J : Nat → Nat → Int64} {x3 s0 : Int32} {Q : Int32 → Int64 → pm_H → Prop} : pm_wp pm_code pm_meta (d + 1) 317 426 ([.ref 1, .ref 8, .ref 79, .int x3], [.int s0], ((pm_t (pm_t T 79 (0, 11)) 1 (1, L), O, nx, sl), I, J)) Q ↔ pm_in (x3 + 1) L = true ∧ (pm_in (x3 + 2) L = true ∧ (pm_in (x3 + 3) L = true ∧ (pm_in (x3 + 4) L = true ∧ (pm_wc pm_code pm_meta d 197 [.ref 79, .int (I 1 (x3 + 1).toNatClampNeg), .int (I 1 (x3 + 2).toNatClampNeg), .int (I 1 (x3 + 3).toNatClampNeg), .int (I 1 (x3 + 4).toNatClampNeg)] ((pm_t (pm_t T 79 (0, 11)) 1 (1, L), O, nx, sl), I, J) (fun v w H => pm_wp pm_code pm_meta (d + 1) 317 450 ([.ref 1, .ref 8, .ref 79, .int x3], [.int v, .int s0], H) Q))))) := (pm_bk_iff pc_ch_317 22 426 _).trans (and_congr Iff.rfl (and_congr Iff.rfl (and_congr Iff.rfl (and_congr Iff.rfl (Iff.rfl)))))
set_option maxRecDepth 40000 in
theorem ly_450 {d L : Nat} {b : Bool} {I : Nat → Nat → Int32} {J : Nat → Nat → Int64} {x3 s0 s1 : Int32} {Q : Int32 → Int64 → pm_H → Prop} : pm_wp pm_code pm_meta d 317 450 ([.ref 1, .ref 8, .ref 79, .int x3], [.int s1, .int s0], (pm_Gb L b, I, J)) Q ↔ if s0 = s1 then pm_wp pm_code pm_meta d 317 2180 ([.ref 1, .ref 8, .ref 79, .int x3], [], (pm_Gb L b, I, J)) Q else pm_wp pm_code pm_meta d 317 453 ([.ref 1, .ref 8, .ref 79, .int x3], [], (pm_Gb L b, I, J)) Q := (pm_bk_iff pc_ch_317 1 450 _).trans (pm_brd)
set_option maxRecDepth 40000 in
theorem lw_455 {d L : Nat} {b : Bool} {I : Nat → Nat → Int32} {J : Nat → Nat → Int64} {x3 : Int32} {Q : Int32 → Int64 → pm_H → Prop} : pm_wp pm_code pm_meta (d + 1) 317 455 ([.ref 1, .ref 8, .ref 79, .int x3], [], (pm_Gb L b, I, J)) Q ↔ pm_in (x3 + 1) L = true ∧ (pm_wc pm_code pm_meta d 120 [.ref 8, .int (I 1 (x3 + 1).toNatClampNeg)] (pm_Gb L b, I, J) (fun v w H => pm_wp pm_code pm_meta (d + 1) 317 464 ([.ref 1, .ref 8, .ref 79, .int x3], [.int v], H) Q)) := (pm_bk_iff pc_ch_317 7 455 _).trans (and_congr Iff.rfl (Iff.rfl))
set_option maxRecDepth 40000 in
theorem lx_464 {d L nx sl : Nat} {T : Nat → Nat × Nat} {O : Nat → Nat → Nat} {I : Nat → Nat → Int32} {J : Nat → Nat → Int64} {x3 s0 : Int32} {Q : Int32 → Int64 → pm_H → Prop} : pm_wp pm_code pm_meta (d + 1) 317 464 ([.ref 1, .ref 8, .ref 79, .int x3], [.int s0], ((pm_t (pm_t T 79 (0, 11)) 1 (1, L), O, nx, sl), I, J)) Q ↔ pm_in (x3 + 1) L = true ∧ (pm_wc pm_code pm_meta d 198 [.ref 79, .int (I 1 (x3 + 1).toNatClampNeg)] ((pm_t (pm_t T 79 (0, 11)) 1 (1, L), O, nx, sl), I, J) (fun v w H => pm_wp pm_code pm_meta (d + 1) 317 473 ([.ref 1, .ref 8, .ref 79, .int x3], [.int v, .int s0], H) Q)) := (pm_bk_iff pc_ch_317 7 464 _).trans (and_congr Iff.rfl (Iff.rfl))
set_option maxRecDepth 40000 in
theorem ly_473 {d L : Nat} {b : Bool} {I : Nat → Nat → Int32} {J : Nat → Nat → Int64} {x3 s0 s1 : Int32} {Q : Int32 → Int64 → pm_H → Prop} : pm_wp pm_code pm_meta d 317 473 ([.ref 1, .ref 8, .ref 79, .int x3], [.int s1, .int s0], (pm_Gb L b, I, J)) Q ↔ if s0 = s1 then pm_wp pm_code pm_meta d 317 2180 ([.ref 1, .ref 8, .ref 79, .int x3], [], (pm_Gb L b, I, J)) Q else pm_wp pm_code pm_meta d 317 476 ([.ref 1, .ref 8, .ref 79, .int x3], [], (pm_Gb L b, I, J)) Q := (pm_bk_iff pc_ch_317 1 473 _).trans (pm_brd)
set_option maxRecDepth 40000 in
theorem lw_478 {d L : Nat} {b : Bool} {I : Nat → Nat → Int32} {J : Nat → Nat → Int64} {x3 : Int32} {Q : Int32 → Int64 → pm_H → Prop} : pm_wp pm_code pm_meta (d + 1) 317 478 ([.ref 1, .ref 8, .ref 79, .int x3], [], (pm_Gb L b, I, J)) Q ↔ pm_in (x3 + 1) L = true ∧ (pm_in (x3 + 2) L = true ∧ (pm_wc pm_code pm_meta d 121 [.ref 8, .int (I 1 (x3 + 1).toNatClampNeg), .int (I 1 (x3 + 2).toNatClampNeg)] (pm_Gb L b, I, J) (fun v w H => pm_wp pm_code pm_meta (d + 1) 317 492 ([.ref 1, .ref 8, .ref 79, .int x3], [.int v], H) Q))) := (pm_bk_iff pc_ch_317 12 478 _).trans (and_congr Iff.rfl (and_congr Iff.rfl (Iff.rfl)))
set_option maxRecDepth 40000 in
theorem lx_492 {d L nx sl : Nat} {T : Nat → Nat × Nat} {O : Nat → Nat → Nat} {I : Nat → Nat → Int32} {J : Nat → Nat → Int64} {x3 s0 : Int32} {Q : Int32 → Int64 → pm_H → Prop} : pm_wp pm_code pm_meta (d + 1) 317 492 ([.ref 1, .ref 8, .ref 79, .int x3], [.int s0], ((pm_t (pm_t T 79 (0, 11)) 1 (1, L), O, nx, sl), I, J)) Q ↔ pm_in (x3 + 1) L = true ∧ (pm_in (x3 + 2) L = true ∧ (pm_wc pm_code pm_meta d 199 [.ref 79, .int (I 1 (x3 + 1).toNatClampNeg), .int (I 1 (x3 + 2).toNatClampNeg)] ((pm_t (pm_t T 79 (0, 11)) 1 (1, L), O, nx, sl), I, J) (fun v w H => pm_wp pm_code pm_meta (d + 1) 317 506 ([.ref 1, .ref 8, .ref 79, .int x3], [.int v, .int s0], H) Q))) := (pm_bk_iff pc_ch_317 12 492 _).trans (and_congr Iff.rfl (and_congr Iff.rfl (Iff.rfl)))
set_option maxRecDepth 40000 in
theorem ly_506 {d L : Nat} {b : Bool} {I : Nat → Nat → Int32} {J : Nat → Nat → Int64} {x3 s0 s1 : Int32} {Q : Int32 → Int64 → pm_H → Prop} : pm_wp pm_code pm_meta d 317 506 ([.ref 1, .ref 8, .ref 79, .int x3], [.int s1, .int s0], (pm_Gb L b, I, J)) Q ↔ if s0 = s1 then pm_wp pm_code pm_meta d 317 2180 ([.ref 1, .ref 8, .ref 79, .int x3], [], (pm_Gb L b, I, J)) Q else pm_wp pm_code pm_meta d 317 509 ([.ref 1, .ref 8, .ref 79, .int x3], [], (pm_Gb L b, I, J)) Q := (pm_bk_iff pc_ch_317 1 506 _).trans (pm_brd)
set_option maxRecDepth 40000 in
theorem lw_511 {d L : Nat} {b : Bool} {I : Nat → Nat → Int32} {J : Nat → Nat → Int64} {x3 : Int32} {Q : Int32 → Int64 → pm_H → Prop} : pm_wp pm_code pm_meta (d + 1) 317 511 ([.ref 1, .ref 8, .ref 79, .int x3], [], (pm_Gb L b, I, J)) Q ↔ pm_in (x3 + 1) L = true ∧ (pm_in (x3 + 2) L = true ∧ (pm_in (x3 + 3) L = true ∧ (pm_wc pm_code pm_meta d 122 [.ref 8, .int (I 1 (x3 + 1).toNatClampNeg), .int (I 1 (x3 + 2).toNatClampNeg), .int (I 1 (x3 + 3).toNatClampNeg)] (pm_Gb L b, I, J) (fun v w H => pm_wp pm_code pm_meta (d + 1) 317 530 ([.ref 1, .ref 8, .ref 79, .int x3], [.int v], H) Q)))) := (pm_bk_iff pc_ch_317 17 511 _).trans (and_congr Iff.rfl (and_congr Iff.rfl (and_congr Iff.rfl (Iff.rfl))))
set_option maxRecDepth 40000 in
theorem lx_530 {d L nx sl : Nat} {T : Nat → Nat × Nat} {O : Nat → Nat → Nat} {I : Nat → Nat → Int32} {J : Nat → Nat → Int64} {x3 s0 : Int32} {Q : Int32 → Int64 → pm_H → Prop} : pm_wp pm_code pm_meta (d + 1) 317 530 ([.ref 1, .ref 8, .ref 79, .int x3], [.int s0], ((pm_t (pm_t T 79 (0, 11)) 1 (1, L), O, nx, sl), I, J)) Q ↔ pm_in (x3 + 1) L = true ∧ (pm_in (x3 + 2) L = true ∧ (pm_in (x3 + 3) L = true ∧ (pm_wc pm_code pm_meta d 200 [.ref 79, .int (I 1 (x3 + 1).toNatClampNeg), .int (I 1 (x3 + 2).toNatClampNeg), .int (I 1 (x3 + 3).toNatClampNeg)] ((pm_t (pm_t T 79 (0, 11)) 1 (1, L), O, nx, sl), I, J) (fun v w H => pm_wp pm_code pm_meta (d + 1) 317 549 ([.ref 1, .ref 8, .ref 79, .int x3], [.int v, .int s0], H) Q)))) := (pm_bk_iff pc_ch_317 17 530 _).trans (and_congr Iff.rfl (and_congr Iff.rfl (and_congr Iff.rfl (Iff.rfl))))
set_option maxRecDepth 40000 in
theorem ly_549 {d L : Nat} {b : Bool} {I : Nat → Nat → Int32} {J : Nat → Nat → Int64} {x3 s0 s1 : Int32} {Q : Int32 → Int64 → pm_H → Prop} : pm_wp pm_code pm_meta d 317 549 ([.ref 1, .ref 8, .ref 79, .int x3], [.int s1, .int s0], (pm_Gb L b, I, J)) Q ↔ if s0 = s1 then pm_wp pm_code pm_meta d 317 2180 ([.ref 1, .ref 8, .ref 79, .int x3], [], (pm_Gb L b, I, J)) Q else pm_wp pm_code pm_meta d 317 552 ([.ref 1, .ref 8, .ref 79, .int x3], [], (pm_Gb L b, I, J)) Q := (pm_bk_iff pc_ch_317 1 549 _).trans (pm_brd)
set_option maxRecDepth 40000 in
theorem lw_554 {d L : Nat} {b : Bool} {I : Nat → Nat → Int32} {J : Nat → Nat → Int64} {x3 : Int32} {Q : Int32 → Int64 → pm_H → Prop} : pm_wp pm_code pm_meta (d + 1) 317 554 ([.ref 1, .ref 8, .ref 79, .int x3], [], (pm_Gb L b, I, J)) Q ↔ pm_in (x3 + 1) L = true ∧ (pm_in (x3 + 2) L = true ∧ (pm_wc pm_code pm_meta d 123 [.ref 8, .int (I 1 (x3 + 1).toNatClampNeg), .int (I 1 (x3 + 2).toNatClampNeg)] (pm_Gb L b, I, J) (fun v w H => pm_wp pm_code pm_meta (d + 1) 317 568 ([.ref 1, .ref 8, .ref 79, .int x3], [.int v], H) Q))) := (pm_bk_iff pc_ch_317 12 554 _).trans (and_congr Iff.rfl (and_congr Iff.rfl (Iff.rfl)))
set_option maxRecDepth 40000 in
theorem lx_568 {d L nx sl : Nat} {T : Nat → Nat × Nat} {O : Nat → Nat → Nat} {I : Nat → Nat → Int32} {J : Nat → Nat → Int64} {x3 s0 : Int32} {Q : Int32 → Int64 → pm_H → Prop} : pm_wp pm_code pm_meta (d + 1) 317 568 ([.ref 1, .ref 8, .ref 79, .int x3], [.int s0], ((pm_t (pm_t T 79 (0, 11)) 1 (1, L), O, nx, sl), I, J)) Q ↔ pm_in (x3 + 1) L = true ∧ (pm_in (x3 + 2) L = true ∧ (pm_wc pm_code pm_meta d 201 [.ref 79, .int (I 1 (x3 + 1).toNatClampNeg), .int (I 1 (x3 + 2).toNatClampNeg)] ((pm_t (pm_t T 79 (0, 11)) 1 (1, L), O, nx, sl), I, J) (fun v w H => pm_wp pm_code pm_meta (d + 1) 317 582 ([.ref 1, .ref 8, .ref 79, .int x3], [.int v, .int s0], H) Q))) := (pm_bk_iff pc_ch_317 12 568 _).trans (and_congr Iff.rfl (and_congr Iff.rfl (Iff.rfl)))
set_option maxRecDepth 40000 in
theorem ly_582 {d L : Nat} {b : Bool} {I : Nat → Nat → Int32} {J : Nat → Nat → Int64} {x3 s0 s1 : Int32} {Q : Int32 → Int64 → pm_H → Prop} : pm_wp pm_code pm_meta d 317 582 ([.ref 1, .ref 8, .ref 79, .int x3], [.int s1, .int s0], (pm_Gb L b, I, J)) Q ↔ if s0 = s1 then pm_wp pm_code pm_meta d 317 2180 ([.ref 1, .ref 8, .ref 79, .int x3], [], (pm_Gb L b, I, J)) Q else pm_wp pm_code pm_meta d 317 585 ([.ref 1, .ref 8, .ref 79, .int x3], [], (pm_Gb L b, I, J)) Q := (pm_bk_iff pc_ch_317 1 582 _).trans (pm_brd)
set_option maxRecDepth 40000 in
theorem lw_587 {d L : Nat} {b : Bool} {I : Nat → Nat → Int32} {J : Nat → Nat → Int64} {x3 : Int32} {Q : Int32 → Int64 → pm_H → Prop} : pm_wp pm_code pm_meta (d + 1) 317 587 ([.ref 1, .ref 8, .ref 79, .int x3], [], (pm_Gb L b, I, J)) Q ↔ pm_in (x3 + 1) L = true ∧ (pm_wc pm_code pm_meta d 124 [.ref 8, .int (I 1 (x3 + 1).toNatClampNeg)] (pm_Gb L b, I, J) (fun v w H => pm_wp pm_code pm_meta (d + 1) 317 596 ([.ref 1, .ref 8, .ref 79, .int x3], [.int v], H) Q)) := (pm_bk_iff pc_ch_317 7 587 _).trans (and_congr Iff.rfl (Iff.rfl))
set_option maxRecDepth 40000 in
theorem lx_596 {d L nx sl : Nat} {T : Nat → Nat × Nat} {O : Nat → Nat → Nat} {I : Nat → Nat → Int32} {J : Nat → Nat → Int64} {x3 s0 : Int32} {Q : Int32 → Int64 → pm_H → Prop} : pm_wp pm_code pm_meta (d + 1) 317 596 ([.ref 1, .ref 8, .ref 79, .int x3], [.int s0], ((pm_t (pm_t T 79 (0, 11)) 1 (1, L), O, nx, sl), I, J)) Q ↔ pm_in (x3 + 1) L = true ∧ (pm_wc pm_code pm_meta d 202 [.ref 79, .int (I 1 (x3 + 1).toNatClampNeg)] ((pm_t (pm_t T 79 (0, 11)) 1 (1, L), O, nx, sl), I, J) (fun v w H => pm_wp pm_code pm_meta (d + 1) 317 605 ([.ref 1, .ref 8, .ref 79, .int x3], [.int v, .int s0], H) Q)) := (pm_bk_iff pc_ch_317 7 596 _).trans (and_congr Iff.rfl (Iff.rfl))
set_option maxRecDepth 40000 in
theorem ly_605 {d L : Nat} {b : Bool} {I : Nat → Nat → Int32} {J : Nat → Nat → Int64} {x3 s0 s1 : Int32} {Q : Int32 → Int64 → pm_H → Prop} : pm_wp pm_code pm_meta d 317 605 ([.ref 1, .ref 8, .ref 79, .int x3], [.int s1, .int s0], (pm_Gb L b, I, J)) Q ↔ if s0 = s1 then pm_wp pm_code pm_meta d 317 2180 ([.ref 1, .ref 8, .ref 79, .int x3], [], (pm_Gb L b, I, J)) Q else pm_wp pm_code pm_meta d 317 608 ([.ref 1, .ref 8, .ref 79, .int x3], [], (pm_Gb L b, I, J)) Q := (pm_bk_iff pc_ch_317 1 605 _).trans (pm_brd)
set_option maxRecDepth 40000 in
theorem lw_610 {d L : Nat} {b : Bool} {I : Nat → Nat → Int32} {J : Nat → Nat → Int64} {x3 : Int32} {Q : Int32 → Int64 → pm_H → Prop} : pm_wp pm_code pm_meta (d + 1) 317 610 ([.ref 1, .ref 8, .ref 79, .int x3], [], (pm_Gb L b, I, J)) Q ↔ pm_in (x3 + 1) L = true ∧ (pm_in (x3 + 2) L = true ∧ (pm_wc pm_code pm_meta d 125 [.ref 8, .int (I 1 (x3 + 1).toNatClampNeg), .int (I 1 (x3 + 2).toNatClampNeg)] (pm_Gb L b, I, J) (fun v w H => pm_wp pm_code pm_meta (d + 1) 317 624 ([.ref 1, .ref 8, .ref 79, .int x3], [.int v], H) Q))) := (pm_bk_iff pc_ch_317 12 610 _).trans (and_congr Iff.rfl (and_congr Iff.rfl (Iff.rfl)))
set_option maxRecDepth 40000 in
theorem lx_624 {d L nx sl : Nat} {T : Nat → Nat × Nat} {O : Nat → Nat → Nat} {I : Nat → Nat → Int32} {J : Nat → Nat → Int64} {x3 s0 : Int32} {Q : Int32 → Int64 → pm_H → Prop} : pm_wp pm_code pm_meta (d + 1) 317 624 ([.ref 1, .ref 8, .ref 79, .int x3], [.int s0], ((pm_t (pm_t T 79 (0, 11)) 1 (1, L), O, nx, sl), I, J)) Q ↔ pm_in (x3 + 1) L = true ∧ (pm_in (x3 + 2) L = true ∧ (pm_wc pm_code pm_meta d 203 [.ref 79, .int (I 1 (x3 + 1).toNatClampNeg), .int (I 1 (x3 + 2).toNatClampNeg)] ((pm_t (pm_t T 79 (0, 11)) 1 (1, L), O, nx, sl), I, J) (fun v w H => pm_wp pm_code pm_meta (d + 1) 317 638 ([.ref 1, .ref 8, .ref 79, .int x3], [.int v, .int s0], H) Q))) := (pm_bk_iff pc_ch_317 12 624 _).trans (and_congr Iff.rfl (and_congr Iff.rfl (Iff.rfl)))
set_option maxRecDepth 40000 in
theorem ly_638 {d L : Nat} {b : Bool} {I : Nat → Nat → Int32} {J : Nat → Nat → Int64} {x3 s0 s1 : Int32} {Q : Int32 → Int64 → pm_H → Prop} : pm_wp pm_code pm_meta d 317 638 ([.ref 1, .ref 8, .ref 79, .int x3], [.int s1, .int s0], (pm_Gb L b, I, J)) Q ↔ if s0 = s1 then pm_wp pm_code pm_meta d 317 2180 ([.ref 1, .ref 8, .ref 79, .int x3], [], (pm_Gb L b, I, J)) Q else pm_wp pm_code pm_meta d 317 641 ([.ref 1, .ref 8, .ref 79, .int x3], [], (pm_Gb L b, I, J)) Q := (pm_bk_iff pc_ch_317 1 638 _).trans (pm_brd)
set_option maxRecDepth 40000 in
theorem lw_643 {d L : Nat} {b : Bool} {I : Nat → Nat → Int32} {J : Nat → Nat → Int64} {x3 : Int32} {Q : Int32 → Int64 → pm_H → Prop} : pm_wp pm_code pm_meta (d + 1) 317 643 ([.ref 1, .ref 8, .ref 79, .int x3], [], (pm_Gb L b, I, J)) Q ↔ pm_in (x3 + 1) L = true ∧ (pm_wc pm_code pm_meta d 126 [.ref 8, .int (I 1 (x3 + 1).toNatClampNeg)] (pm_Gb L b, I, J) (fun v w H => pm_wp pm_code pm_meta (d + 1) 317 652 ([.ref 1, .ref 8, .ref 79, .int x3], [.int v], H) Q)) := (pm_bk_iff pc_ch_317 7 643 _).trans (and_congr Iff.rfl (Iff.rfl))
set_option maxRecDepth 40000 in
theorem lx_652 {d L nx sl : Nat} {T : Nat → Nat × Nat} {O : Nat → Nat → Nat} {I : Nat → Nat → Int32} {J : Nat → Nat → Int64} {x3 s0 : Int32} {Q : Int32 → Int64 → pm_H → Prop} : pm_wp pm_code pm_meta (d + 1) 317 652 ([.ref 1, .ref 8, .ref 79, .int x3], [.int s0], ((pm_t (pm_t T 79 (0, 11)) 1 (1, L), O, nx, sl), I, J)) Q ↔ pm_in (x3 + 1) L = true ∧ (pm_wc pm_code pm_meta d 204 [.ref 79, .int (I 1 (x3 + 1).toNatClampNeg)] ((pm_t (pm_t T 79 (0, 11)) 1 (1, L), O, nx, sl), I, J) (fun v w H => pm_wp pm_code pm_meta (d + 1) 317 661 ([.ref 1, .ref 8, .ref 79, .int x3], [.int v, .int s0], H) Q)) := (pm_bk_iff pc_ch_317 7 652 _).trans (and_congr Iff.rfl (Iff.rfl))
set_option maxRecDepth 40000 in
theorem ly_661 {d L : Nat} {b : Bool} {I : Nat → Nat → Int32} {J : Nat → Nat → Int64} {x3 s0 s1 : Int32} {Q : Int32 → Int64 → pm_H → Prop} : pm_wp pm_code pm_meta d 317 661 ([.ref 1, .ref 8, .ref 79, .int x3], [.int s1, .int s0], (pm_Gb L b, I, J)) Q ↔ if s0 = s1 then pm_wp pm_code pm_meta d 317 2180 ([.ref 1, .ref 8, .ref 79, .int x3], [], (pm_Gb L b, I, J)) Q else pm_wp pm_code pm_meta d 317 664 ([.ref 1, .ref 8, .ref 79, .int x3], [], (pm_Gb L b, I, J)) Q := (pm_bk_iff pc_ch_317 1 661 _).trans (pm_brd)
set_option maxRecDepth 40000 in
theorem lw_666 {d L : Nat} {b : Bool} {I : Nat → Nat → Int32} {J : Nat → Nat → Int64} {x3 : Int32} {Q : Int32 → Int64 → pm_H → Prop} : pm_wp pm_code pm_meta (d + 1) 317 666 ([.ref 1, .ref 8, .ref 79, .int x3], [], (pm_Gb L b, I, J)) Q ↔ pm_in (x3 + 1) L = true ∧ (pm_in (x3 + 2) L = true ∧ (pm_in (x3 + 3) L = true ∧ (pm_in (x3 + 4) L = true ∧ (pm_in (x3 + 5) L = true ∧ (pm_in (x3 + 6) L = true ∧ (pm_in (x3 + 7) L = true ∧ (pm_in (x3 + 8) L = true ∧ (pm_wc pm_code pm_meta d 127 [.ref 8, .int (I 1 (x3 + 1).toNatClampNeg), .int (I 1 (x3 + 2).toNatClampNeg), .int (I 1 (x3 + 3).toNatClampNeg), .int (I 1 (x3 + 4).toNatClampNeg), .int (I 1 (x3 + 5).toNatClampNeg), .int (I 1 (x3 + 6).toNatClampNeg), .int (I 1 (x3 + 7).toNatClampNeg), .int (I 1 (x3 + 8).toNatClampNeg)] (pm_Gb L b, I, J) (fun v w H => pm_wp pm_code pm_meta (d + 1) 317 713 ([.ref 1, .ref 8, .ref 79, .int x3], [.int v], H) Q))))))))) := (pm_bk_iff pc_ch_317 42 666 _).trans (and_congr Iff.rfl (and_congr Iff.rfl (and_congr Iff.rfl (and_congr Iff.rfl (and_congr Iff.rfl (and_congr Iff.rfl (and_congr Iff.rfl (and_congr Iff.rfl (Iff.rfl)))))))))
set_option maxRecDepth 40000 in
theorem lx_713 {d L nx sl : Nat} {T : Nat → Nat × Nat} {O : Nat → Nat → Nat} {I : Nat → Nat → Int32} {J : Nat → Nat → Int64} {x3 s0 : Int32} {Q : Int32 → Int64 → pm_H → Prop} : pm_wp pm_code pm_meta (d + 1) 317 713 ([.ref 1, .ref 8, .ref 79, .int x3], [.int s0], ((pm_t (pm_t T 79 (0, 11)) 1 (1, L), O, nx, sl), I, J)) Q ↔ pm_in (x3 + 1) L = true ∧ (pm_in (x3 + 2) L = true ∧ (pm_in (x3 + 3) L = true ∧ (pm_in (x3 + 4) L = true ∧ (pm_in (x3 + 5) L = true ∧ (pm_in (x3 + 6) L = true ∧ (pm_in (x3 + 7) L = true ∧ (pm_in (x3 + 8) L = true ∧ (pm_wc pm_code pm_meta d 206 [.ref 79, .int (I 1 (x3 + 1).toNatClampNeg), .int (I 1 (x3 + 2).toNatClampNeg), .int (I 1 (x3 + 3).toNatClampNeg), .int (I 1 (x3 + 4).toNatClampNeg), .int (I 1 (x3 + 5).toNatClampNeg), .int (I 1 (x3 + 6).toNatClampNeg), .int (I 1 (x3 + 7).toNatClampNeg), .int (I 1 (x3 + 8).toNatClampNeg)] ((pm_t (pm_t T 79 (0, 11)) 1 (1, L), O, nx, sl), I, J) (fun v w H => pm_wp pm_code pm_meta (d + 1) 317 760 ([.ref 1, .ref 8, .ref 79, .int x3], [.int v, .int s0], H) Q))))))))) := (pm_bk_iff pc_ch_317 42 713 _).trans (and_congr Iff.rfl (and_congr Iff.rfl (and_congr Iff.rfl (and_congr Iff.rfl (and_congr Iff.rfl (and_congr Iff.rfl (and_congr Iff.rfl (and_congr Iff.rfl (Iff.rfl)))))))))
set_option maxRecDepth 40000 in
theorem ly_760 {d L : Nat} {b : Bool} {I : Nat → Nat → Int32} {J : Nat → Nat → Int64} {x3 s0 s1 : Int32} {Q : Int32 → Int64 → pm_H → Prop} : pm_wp pm_code pm_meta d 317 760 ([.ref 1, .ref 8, .ref 79, .int x3], [.int s1, .int s0], (pm_Gb L b, I, J)) Q ↔ if s0 = s1 then pm_wp pm_code pm_meta d 317 2180 ([.ref 1, .ref 8, .ref 79, .int x3], [], (pm_Gb L b, I, J)) Q else pm_wp pm_code pm_meta d 317 763 ([.ref 1, .ref 8, .ref 79, .int x3], [], (pm_Gb L b, I, J)) Q := (pm_bk_iff pc_ch_317 1 760 _).trans (pm_brd)
set_option maxRecDepth 40000 in
theorem lw_765 {d L : Nat} {b : Bool} {I : Nat → Nat → Int32} {J : Nat → Nat → Int64} {x3 : Int32} {Q : Int32 → Int64 → pm_H → Prop} : pm_wp pm_code pm_meta (d + 1) 317 765 ([.ref 1, .ref 8, .ref 79, .int x3], [], (pm_Gb L b, I, J)) Q ↔ pm_in (x3 + 1) L = true ∧ (pm_in (x3 + 2) L = true ∧ (pm_wc pm_code pm_meta d 129 [.ref 8, .int (I 1 (x3 + 1).toNatClampNeg), .int (I 1 (x3 + 2).toNatClampNeg)] (pm_Gb L b, I, J) (fun v w H => pm_wp pm_code pm_meta (d + 1) 317 779 ([.ref 1, .ref 8, .ref 79, .int x3], [.int v], H) Q))) := (pm_bk_iff pc_ch_317 12 765 _).trans (and_congr Iff.rfl (and_congr Iff.rfl (Iff.rfl)))
set_option maxRecDepth 40000 in
theorem lx_779 {d L nx sl : Nat} {T : Nat → Nat × Nat} {O : Nat → Nat → Nat} {I : Nat → Nat → Int32} {J : Nat → Nat → Int64} {x3 s0 : Int32} {Q : Int32 → Int64 → pm_H → Prop} : pm_wp pm_code pm_meta (d + 1) 317 779 ([.ref 1, .ref 8, .ref 79, .int x3], [.int s0], ((pm_t (pm_t T 79 (0, 11)) 1 (1, L), O, nx, sl), I, J)) Q ↔ pm_in (x3 + 1) L = true ∧ (pm_in (x3 + 2) L = true ∧ (pm_wc pm_code pm_meta d 210 [.ref 79, .int (I 1 (x3 + 1).toNatClampNeg), .int (I 1 (x3 + 2).toNatClampNeg)] ((pm_t (pm_t T 79 (0, 11)) 1 (1, L), O, nx, sl), I, J) (fun v w H => pm_wp pm_code pm_meta (d + 1) 317 793 ([.ref 1, .ref 8, .ref 79, .int x3], [.int v, .int s0], H) Q))) := (pm_bk_iff pc_ch_317 12 779 _).trans (and_congr Iff.rfl (and_congr Iff.rfl (Iff.rfl)))
set_option maxRecDepth 40000 in
theorem ly_793 {d L : Nat} {b : Bool} {I : Nat → Nat → Int32} {J : Nat → Nat → Int64} {x3 s0 s1 : Int32} {Q : Int32 → Int64 → pm_H → Prop} : pm_wp pm_code pm_meta d 317 793 ([.ref 1, .ref 8, .ref 79, .int x3], [.int s1, .int s0], (pm_Gb L b, I, J)) Q ↔ if s0 = s1 then pm_wp pm_code pm_meta d 317 2180 ([.ref 1, .ref 8, .ref 79, .int x3], [], (pm_Gb L b, I, J)) Q else pm_wp pm_code pm_meta d 317 796 ([.ref 1, .ref 8, .ref 79, .int x3], [], (pm_Gb L b, I, J)) Q := (pm_bk_iff pc_ch_317 1 793 _).trans (pm_brd)
set_option maxRecDepth 40000 in
theorem lw_798 {d L : Nat} {b : Bool} {I : Nat → Nat → Int32} {J : Nat → Nat → Int64} {x3 : Int32} {Q : Int32 → Int64 → pm_H → Prop} : pm_wp pm_code pm_meta (d + 1) 317 798 ([.ref 1, .ref 8, .ref 79, .int x3], [], (pm_Gb L b, I, J)) Q ↔ pm_in (x3 + 1) L = true ∧ (pm_wc pm_code pm_meta d 130 [.ref 8, .int (I 1 (x3 + 1).toNatClampNeg)] (pm_Gb L b, I, J) (fun v w H => pm_wp pm_code pm_meta (d + 1) 317 807 ([.ref 1, .ref 8, .ref 79, .int x3], [.int v], H) Q)) := (pm_bk_iff pc_ch_317 7 798 _).trans (and_congr Iff.rfl (Iff.rfl))
set_option maxRecDepth 40000 in
theorem lx_807 {d L nx sl : Nat} {T : Nat → Nat × Nat} {O : Nat → Nat → Nat} {I : Nat → Nat → Int32} {J : Nat → Nat → Int64} {x3 s0 : Int32} {Q : Int32 → Int64 → pm_H → Prop} : pm_wp pm_code pm_meta (d + 1) 317 807 ([.ref 1, .ref 8, .ref 79, .int x3], [.int s0], ((pm_t (pm_t T 79 (0, 11)) 1 (1, L), O, nx, sl), I, J)) Q ↔ pm_in (x3 + 1) L = true ∧ (pm_wc pm_code pm_meta d 211 [.ref 79, .int (I 1 (x3 + 1).toNatClampNeg)] ((pm_t (pm_t T 79 (0, 11)) 1 (1, L), O, nx, sl), I, J) (fun v w H => pm_wp pm_code pm_meta (d + 1) 317 816 ([.ref 1, .ref 8, .ref 79, .int x3], [.int v, .int s0], H) Q)) := (pm_bk_iff pc_ch_317 7 807 _).trans (and_congr Iff.rfl (Iff.rfl))
set_option maxRecDepth 40000 in
theorem ly_816 {d L : Nat} {b : Bool} {I : Nat → Nat → Int32} {J : Nat → Nat → Int64} {x3 s0 s1 : Int32} {Q : Int32 → Int64 → pm_H → Prop} : pm_wp pm_code pm_meta d 317 816 ([.ref 1, .ref 8, .ref 79, .int x3], [.int s1, .int s0], (pm_Gb L b, I, J)) Q ↔ if s0 = s1 then pm_wp pm_code pm_meta d 317 2180 ([.ref 1, .ref 8, .ref 79, .int x3], [], (pm_Gb L b, I, J)) Q else pm_wp pm_code pm_meta d 317 819 ([.ref 1, .ref 8, .ref 79, .int x3], [], (pm_Gb L b, I, J)) Q := (pm_bk_iff pc_ch_317 1 816 _).trans (pm_brd)
set_option maxRecDepth 40000 in
theorem lw_821 {d L : Nat} {b : Bool} {I : Nat → Nat → Int32} {J : Nat → Nat → Int64} {x3 : Int32} {Q : Int32 → Int64 → pm_H → Prop} : pm_wp pm_code pm_meta (d + 1) 317 821 ([.ref 1, .ref 8, .ref 79, .int x3], [], (pm_Gb L b, I, J)) Q ↔ pm_in (x3 + 1) L = true ∧ (pm_wc pm_code pm_meta d 131 [.ref 8, .int (I 1 (x3 + 1).toNatClampNeg)] (pm_Gb L b, I, J) (fun v w H => pm_wp pm_code pm_meta (d + 1) 317 830 ([.ref 1, .ref 8, .ref 79, .int x3], [.int v], H) Q)) := (pm_bk_iff pc_ch_317 7 821 _).trans (and_congr Iff.rfl (Iff.rfl))
set_option maxRecDepth 40000 in
theorem lx_830 {d L nx sl : Nat} {T : Nat → Nat × Nat} {O : Nat → Nat → Nat} {I : Nat → Nat → Int32} {J : Nat → Nat → Int64} {x3 s0 : Int32} {Q : Int32 → Int64 → pm_H → Prop} : pm_wp pm_code pm_meta (d + 1) 317 830 ([.ref 1, .ref 8, .ref 79, .int x3], [.int s0], ((pm_t (pm_t T 79 (0, 11)) 1 (1, L), O, nx, sl), I, J)) Q ↔ pm_in (x3 + 1) L = true ∧ (pm_wc pm_code pm_meta d 213 [.ref 79, .int (I 1 (x3 + 1).toNatClampNeg)] ((pm_t (pm_t T 79 (0, 11)) 1 (1, L), O, nx, sl), I, J) (fun v w H => pm_wp pm_code pm_meta (d + 1) 317 839 ([.ref 1, .ref 8, .ref 79, .int x3], [.int v, .int s0], H) Q)) := (pm_bk_iff pc_ch_317 7 830 _).trans (and_congr Iff.rfl (Iff.rfl))
set_option maxRecDepth 40000 in
theorem ly_839 {d L : Nat} {b : Bool} {I : Nat → Nat → Int32} {J : Nat → Nat → Int64} {x3 s0 s1 : Int32} {Q : Int32 → Int64 → pm_H → Prop} : pm_wp pm_code pm_meta d 317 839 ([.ref 1, .ref 8, .ref 79, .int x3], [.int s1, .int s0], (pm_Gb L b, I, J)) Q ↔ if s0 = s1 then pm_wp pm_code pm_meta d 317 2180 ([.ref 1, .ref 8, .ref 79, .int x3], [], (pm_Gb L b, I, J)) Q else pm_wp pm_code pm_meta d 317 842 ([.ref 1, .ref 8, .ref 79, .int x3], [], (pm_Gb L b, I, J)) Q := (pm_bk_iff pc_ch_317 1 839 _).trans (pm_brd)
set_option maxRecDepth 40000 in
theorem lw_844 {d L : Nat} {b : Bool} {I : Nat → Nat → Int32} {J : Nat → Nat → Int64} {x3 : Int32} {Q : Int32 → Int64 → pm_H → Prop} : pm_wp pm_code pm_meta (d + 1) 317 844 ([.ref 1, .ref 8, .ref 79, .int x3], [], (pm_Gb L b, I, J)) Q ↔ pm_in (x3 + 1) L = true ∧ (pm_in (x3 + 2) L = true ∧ (pm_in (x3 + 3) L = true ∧ (pm_wc pm_code pm_meta d 132 [.ref 8, .long (((Int32.toInt64 (I 1 (x3 + 1).toNatClampNeg)) <<< (Int32.toInt64 32 &&& 63)) ||| ((Int32.toInt64 (I 1 (x3 + 2).toNatClampNeg)) &&& 4294967295)), .int (I 1 (x3 + 3).toNatClampNeg)] (pm_Gb L b, I, J) (fun v w H => pm_wp pm_code pm_meta (d + 1) 317 873 ([.ref 1, .ref 8, .ref 79, .int x3], [.int v], H) Q)))) := (pm_bk_iff pc_ch_317 24 844 _).trans (and_congr Iff.rfl (and_congr Iff.rfl (and_congr Iff.rfl (Iff.rfl))))
set_option maxRecDepth 40000 in
theorem lx_873 {d L nx sl : Nat} {T : Nat → Nat × Nat} {O : Nat → Nat → Nat} {I : Nat → Nat → Int32} {J : Nat → Nat → Int64} {x3 s0 : Int32} {Q : Int32 → Int64 → pm_H → Prop} : pm_wp pm_code pm_meta (d + 1) 317 873 ([.ref 1, .ref 8, .ref 79, .int x3], [.int s0], ((pm_t (pm_t T 79 (0, 11)) 1 (1, L), O, nx, sl), I, J)) Q ↔ pm_in (x3 + 1) L = true ∧ (pm_in (x3 + 2) L = true ∧ (pm_in (x3 + 3) L = true ∧ (pm_wc pm_code pm_meta d 214 [.ref 79, .long (((Int32.toInt64 (I 1 (x3 + 1).toNatClampNeg)) <<< (Int32.toInt64 32 &&& 63)) ||| ((Int32.toInt64 (I 1 (x3 + 2).toNatClampNeg)) &&& 4294967295)), .int (I 1 (x3 + 3).toNatClampNeg)] ((pm_t (pm_t T 79 (0, 11)) 1 (1, L), O, nx, sl), I, J) (fun v w H => pm_wp pm_code pm_meta (d + 1) 317 902 ([.ref 1, .ref 8, .ref 79, .int x3], [.int v, .int s0], H) Q)))) := (pm_bk_iff pc_ch_317 24 873 _).trans (and_congr Iff.rfl (and_congr Iff.rfl (and_congr Iff.rfl (Iff.rfl))))
set_option maxRecDepth 40000 in
theorem ly_902 {d L : Nat} {b : Bool} {I : Nat → Nat → Int32} {J : Nat → Nat → Int64} {x3 s0 s1 : Int32} {Q : Int32 → Int64 → pm_H → Prop} : pm_wp pm_code pm_meta d 317 902 ([.ref 1, .ref 8, .ref 79, .int x3], [.int s1, .int s0], (pm_Gb L b, I, J)) Q ↔ if s0 = s1 then pm_wp pm_code pm_meta d 317 2180 ([.ref 1, .ref 8, .ref 79, .int x3], [], (pm_Gb L b, I, J)) Q else pm_wp pm_code pm_meta d 317 905 ([.ref 1, .ref 8, .ref 79, .int x3], [], (pm_Gb L b, I, J)) Q := (pm_bk_iff pc_ch_317 1 902 _).trans (pm_brd)
set_option maxRecDepth 40000 in
theorem lw_907 {d L : Nat} {b : Bool} {I : Nat → Nat → Int32} {J : Nat → Nat → Int64} {x3 : Int32} {Q : Int32 → Int64 → pm_H → Prop} : pm_wp pm_code pm_meta (d + 1) 317 907 ([.ref 1, .ref 8, .ref 79, .int x3], [], (pm_Gb L b, I, J)) Q ↔ pm_in (x3 + 1) L = true ∧ (pm_wc pm_code pm_meta d 133 [.ref 8, .int (I 1 (x3 + 1).toNatClampNeg)] (pm_Gb L b, I, J) (fun v w H => pm_wp pm_code pm_meta (d + 1) 317 916 ([.ref 1, .ref 8, .ref 79, .int x3], [.int v], H) Q)) := (pm_bk_iff pc_ch_317 7 907 _).trans (and_congr Iff.rfl (Iff.rfl))
set_option maxRecDepth 40000 in
theorem lx_916 {d L nx sl : Nat} {T : Nat → Nat × Nat} {O : Nat → Nat → Nat} {I : Nat → Nat → Int32} {J : Nat → Nat → Int64} {x3 s0 : Int32} {Q : Int32 → Int64 → pm_H → Prop} : pm_wp pm_code pm_meta (d + 1) 317 916 ([.ref 1, .ref 8, .ref 79, .int x3], [.int s0], ((pm_t (pm_t T 79 (0, 11)) 1 (1, L), O, nx, sl), I, J)) Q ↔ pm_in (x3 + 1) L = true ∧ (pm_wc pm_code pm_meta d 233 [.ref 79, .int (I 1 (x3 + 1).toNatClampNeg)] ((pm_t (pm_t T 79 (0, 11)) 1 (1, L), O, nx, sl), I, J) (fun v w H => pm_wp pm_code pm_meta (d + 1) 317 925 ([.ref 1, .ref 8, .ref 79, .int x3], [.int v, .int s0], H) Q)) := (pm_bk_iff pc_ch_317 7 916 _).trans (and_congr Iff.rfl (Iff.rfl))
set_option maxRecDepth 40000 in
theorem ly_925 {d L : Nat} {b : Bool} {I : Nat → Nat → Int32} {J : Nat → Nat → Int64} {x3 s0 s1 : Int32} {Q : Int32 → Int64 → pm_H → Prop} : pm_wp pm_code pm_meta d 317 925 ([.ref 1, .ref 8, .ref 79, .int x3], [.int s1, .int s0], (pm_Gb L b, I, J)) Q ↔ if s0 = s1 then pm_wp pm_code pm_meta d 317 2180 ([.ref 1, .ref 8, .ref 79, .int x3], [], (pm_Gb L b, I, J)) Q else pm_wp pm_code pm_meta d 317 928 ([.ref 1, .ref 8, .ref 79, .int x3], [], (pm_Gb L b, I, J)) Q := (pm_bk_iff pc_ch_317 1 925 _).trans (pm_brd)
set_option maxRecDepth 40000 in
theorem lw_930 {d L : Nat} {b : Bool} {I : Nat → Nat → Int32} {J : Nat → Nat → Int64} {x3 : Int32} {Q : Int32 → Int64 → pm_H → Prop} : pm_wp pm_code pm_meta (d + 1) 317 930 ([.ref 1, .ref 8, .ref 79, .int x3], [], (pm_Gb L b, I, J)) Q ↔ pm_in (x3 + 1) L = true ∧ (pm_wc pm_code pm_meta d 134 [.ref 8, .int (I 1 (x3 + 1).toNatClampNeg)] (pm_Gb L b, I, J) (fun v w H => pm_wp pm_code pm_meta (d + 1) 317 939 ([.ref 1, .ref 8, .ref 79, .int x3], [.int v], H) Q)) := (pm_bk_iff pc_ch_317 7 930 _).trans (and_congr Iff.rfl (Iff.rfl))
set_option maxRecDepth 40000 in
theorem lx_939 {d L nx sl : Nat} {T : Nat → Nat × Nat} {O : Nat → Nat → Nat} {I : Nat → Nat → Int32} {J : Nat → Nat → Int64} {x3 s0 : Int32} {Q : Int32 → Int64 → pm_H → Prop} : pm_wp pm_code pm_meta (d + 1) 317 939 ([.ref 1, .ref 8, .ref 79, .int x3], [.int s0], ((pm_t (pm_t T 79 (0, 11)) 1 (1, L), O, nx, sl), I, J)) Q ↔ pm_in (x3 + 1) L = true ∧ (pm_wc pm_code pm_meta d 234 [.ref 79, .int (I 1 (x3 + 1).toNatClampNeg)] ((pm_t (pm_t T 79 (0, 11)) 1 (1, L), O, nx, sl), I, J) (fun v w H => pm_wp pm_code pm_meta (d + 1) 317 948 ([.ref 1, .ref 8, .ref 79, .int x3], [.int v, .int s0], H) Q)) := (pm_bk_iff pc_ch_317 7 939 _).trans (and_congr Iff.rfl (Iff.rfl))
set_option maxRecDepth 40000 in
theorem ly_948 {d L : Nat} {b : Bool} {I : Nat → Nat → Int32} {J : Nat → Nat → Int64} {x3 s0 s1 : Int32} {Q : Int32 → Int64 → pm_H → Prop} : pm_wp pm_code pm_meta d 317 948 ([.ref 1, .ref 8, .ref 79, .int x3], [.int s1, .int s0], (pm_Gb L b, I, J)) Q ↔ if s0 = s1 then pm_wp pm_code pm_meta d 317 2180 ([.ref 1, .ref 8, .ref 79, .int x3], [], (pm_Gb L b, I, J)) Q else pm_wp pm_code pm_meta d 317 951 ([.ref 1, .ref 8, .ref 79, .int x3], [], (pm_Gb L b, I, J)) Q := (pm_bk_iff pc_ch_317 1 948 _).trans (pm_brd)
set_option maxRecDepth 40000 in
theorem lw_953 {d L : Nat} {b : Bool} {I : Nat → Nat → Int32} {J : Nat → Nat → Int64} {x3 : Int32} {Q : Int32 → Int64 → pm_H → Prop} : pm_wp pm_code pm_meta (d + 1) 317 953 ([.ref 1, .ref 8, .ref 79, .int x3], [], (pm_Gb L b, I, J)) Q ↔ pm_in (x3 + 1) L = true ∧ (pm_in (x3 + 2) L = true ∧ (pm_wc pm_code pm_meta d 135 [.ref 8, .int (I 1 (x3 + 1).toNatClampNeg), .int (I 1 (x3 + 2).toNatClampNeg)] (pm_Gb L b, I, J) (fun v w H => pm_wp pm_code pm_meta (d + 1) 317 967 ([.ref 1, .ref 8, .ref 79, .int x3], [.int v], H) Q))) := (pm_bk_iff pc_ch_317 12 953 _).trans (and_congr Iff.rfl (and_congr Iff.rfl (Iff.rfl)))
set_option maxRecDepth 40000 in
theorem lx_967 {d L nx sl : Nat} {T : Nat → Nat × Nat} {O : Nat → Nat → Nat} {I : Nat → Nat → Int32} {J : Nat → Nat → Int64} {x3 s0 : Int32} {Q : Int32 → Int64 → pm_H → Prop} : pm_wp pm_code pm_meta (d + 1) 317 967 ([.ref 1, .ref 8, .ref 79, .int x3], [.int s0], ((pm_t (pm_t T 79 (0, 11)) 1 (1, L), O, nx, sl), I, J)) Q ↔ pm_in (x3 + 1) L = true ∧ (pm_in (x3 + 2) L = true ∧ (pm_wc pm_code pm_meta d 235 [.ref 79, .int (I 1 (x3 + 1).toNatClampNeg), .int (I 1 (x3 + 2).toNatClampNeg)] ((pm_t (pm_t T 79 (0, 11)) 1 (1, L), O, nx, sl), I, J) (fun v w H => pm_wp pm_code pm_meta (d + 1) 317 981 ([.ref 1, .ref 8, .ref 79, .int x3], [.int v, .int s0], H) Q))) := (pm_bk_iff pc_ch_317 12 967 _).trans (and_congr Iff.rfl (and_congr Iff.rfl (Iff.rfl)))
set_option maxRecDepth 40000 in
theorem ly_981 {d L : Nat} {b : Bool} {I : Nat → Nat → Int32} {J : Nat → Nat → Int64} {x3 s0 s1 : Int32} {Q : Int32 → Int64 → pm_H → Prop} : pm_wp pm_code pm_meta d 317 981 ([.ref 1, .ref 8, .ref 79, .int x3], [.int s1, .int s0], (pm_Gb L b, I, J)) Q ↔ if s0 = s1 then pm_wp pm_code pm_meta d 317 2180 ([.ref 1, .ref 8, .ref 79, .int x3], [], (pm_Gb L b, I, J)) Q else pm_wp pm_code pm_meta d 317 984 ([.ref 1, .ref 8, .ref 79, .int x3], [], (pm_Gb L b, I, J)) Q := (pm_bk_iff pc_ch_317 1 981 _).trans (pm_brd)
set_option maxRecDepth 40000 in
theorem lw_986 {d L : Nat} {b : Bool} {I : Nat → Nat → Int32} {J : Nat → Nat → Int64} {x3 : Int32} {Q : Int32 → Int64 → pm_H → Prop} : pm_wp pm_code pm_meta (d + 1) 317 986 ([.ref 1, .ref 8, .ref 79, .int x3], [], (pm_Gb L b, I, J)) Q ↔ pm_in (x3 + 1) L = true ∧ (pm_wc pm_code pm_meta d 136 [.ref 8, .int (I 1 (x3 + 1).toNatClampNeg)] (pm_Gb L b, I, J) (fun v w H => pm_wp pm_code pm_meta (d + 1) 317 995 ([.ref 1, .ref 8, .ref 79, .int x3], [.int v], H) Q)) := (pm_bk_iff pc_ch_317 7 986 _).trans (and_congr Iff.rfl (Iff.rfl))
set_option maxRecDepth 40000 in
theorem lx_995 {d L nx sl : Nat} {T : Nat → Nat × Nat} {O : Nat → Nat → Nat} {I : Nat → Nat → Int32} {J : Nat → Nat → Int64} {x3 s0 : Int32} {Q : Int32 → Int64 → pm_H → Prop} : pm_wp pm_code pm_meta (d + 1) 317 995 ([.ref 1, .ref 8, .ref 79, .int x3], [.int s0], ((pm_t (pm_t T 79 (0, 11)) 1 (1, L), O, nx, sl), I, J)) Q ↔ pm_in (x3 + 1) L = true ∧ (pm_wc pm_code pm_meta d 242 [.ref 79, .int (I 1 (x3 + 1).toNatClampNeg)] ((pm_t (pm_t T 79 (0, 11)) 1 (1, L), O, nx, sl), I, J) (fun v w H => pm_wp pm_code pm_meta (d + 1) 317 1004 ([.ref 1, .ref 8, .ref 79, .int x3], [.int v, .int s0], H) Q)) := (pm_bk_iff pc_ch_317 7 995 _).trans (and_congr Iff.rfl (Iff.rfl))
set_option maxRecDepth 40000 in
theorem ly_1004 {d L : Nat} {b : Bool} {I : Nat → Nat → Int32} {J : Nat → Nat → Int64} {x3 s0 s1 : Int32} {Q : Int32 → Int64 → pm_H → Prop} : pm_wp pm_code pm_meta d 317 1004 ([.ref 1, .ref 8, .ref 79, .int x3], [.int s1, .int s0], (pm_Gb L b, I, J)) Q ↔ if s0 = s1 then pm_wp pm_code pm_meta d 317 2180 ([.ref 1, .ref 8, .ref 79, .int x3], [], (pm_Gb L b, I, J)) Q else pm_wp pm_code pm_meta d 317 1007 ([.ref 1, .ref 8, .ref 79, .int x3], [], (pm_Gb L b, I, J)) Q := (pm_bk_iff pc_ch_317 1 1004 _).trans (pm_brd)
set_option maxRecDepth 40000 in
theorem lw_1009 {d L : Nat} {b : Bool} {I : Nat → Nat → Int32} {J : Nat → Nat → Int64} {x3 : Int32} {Q : Int32 → Int64 → pm_H → Prop} : pm_wp pm_code pm_meta (d + 1) 317 1009 ([.ref 1, .ref 8, .ref 79, .int x3], [], (pm_Gb L b, I, J)) Q ↔ pm_in (x3 + 1) L = true ∧ (pm_wc pm_code pm_meta d 137 [.ref 8, .int (I 1 (x3 + 1).toNatClampNeg)] (pm_Gb L b, I, J) (fun v w H => pm_wp pm_code pm_meta (d + 1) 317 1018 ([.ref 1, .ref 8, .ref 79, .int x3], [.int v], H) Q)) := (pm_bk_iff pc_ch_317 7 1009 _).trans (and_congr Iff.rfl (Iff.rfl))
set_option maxRecDepth 40000 in
theorem lx_1018 {d L nx sl : Nat} {T : Nat → Nat × Nat} {O : Nat → Nat → Nat} {I : Nat → Nat → Int32} {J : Nat → Nat → Int64} {x3 s0 : Int32} {Q : Int32 → Int64 → pm_H → Prop} : pm_wp pm_code pm_meta (d + 1) 317 1018 ([.ref 1, .ref 8, .ref 79, .int x3], [.int s0], ((pm_t (pm_t T 79 (0, 11)) 1 (1, L), O, nx, sl), I, J)) Q ↔ pm_in (x3 + 1) L = true ∧ (pm_wc pm_code pm_meta d 243 [.ref 79, .int (I 1 (x3 + 1).toNatClampNeg)] ((pm_t (pm_t T 79 (0, 11)) 1 (1, L), O, nx, sl), I, J) (fun v w H => pm_wp pm_code pm_meta (d + 1) 317 1027 ([.ref 1, .ref 8, .ref 79, .int x3], [.int v, .int s0], H) Q)) := (pm_bk_iff pc_ch_317 7 1018 _).trans (and_congr Iff.rfl (Iff.rfl))
set_option maxRecDepth 40000 in
theorem ly_1027 {d L : Nat} {b : Bool} {I : Nat → Nat → Int32} {J : Nat → Nat → Int64} {x3 s0 s1 : Int32} {Q : Int32 → Int64 → pm_H → Prop} : pm_wp pm_code pm_meta d 317 1027 ([.ref 1, .ref 8, .ref 79, .int x3], [.int s1, .int s0], (pm_Gb L b, I, J)) Q ↔ if s0 = s1 then pm_wp pm_code pm_meta d 317 2180 ([.ref 1, .ref 8, .ref 79, .int x3], [], (pm_Gb L b, I, J)) Q else pm_wp pm_code pm_meta d 317 1030 ([.ref 1, .ref 8, .ref 79, .int x3], [], (pm_Gb L b, I, J)) Q := (pm_bk_iff pc_ch_317 1 1027 _).trans (pm_brd)
set_option maxRecDepth 40000 in
theorem lw_1032 {d L : Nat} {b : Bool} {I : Nat → Nat → Int32} {J : Nat → Nat → Int64} {x3 : Int32} {Q : Int32 → Int64 → pm_H → Prop} : pm_wp pm_code pm_meta (d + 1) 317 1032 ([.ref 1, .ref 8, .ref 79, .int x3], [], (pm_Gb L b, I, J)) Q ↔ pm_in (x3 + 1) L = true ∧ (pm_wc pm_code pm_meta d 138 [.ref 8, .int (I 1 (x3 + 1).toNatClampNeg)] (pm_Gb L b, I, J) (fun v w H => pm_wp pm_code pm_meta (d + 1) 317 1041 ([.ref 1, .ref 8, .ref 79, .int x3], [.int v], H) Q)) := (pm_bk_iff pc_ch_317 7 1032 _).trans (and_congr Iff.rfl (Iff.rfl))
set_option maxRecDepth 40000 in
theorem lx_1041 {d L nx sl : Nat} {T : Nat → Nat × Nat} {O : Nat → Nat → Nat} {I : Nat → Nat → Int32} {J : Nat → Nat → Int64} {x3 s0 : Int32} {Q : Int32 → Int64 → pm_H → Prop} : pm_wp pm_code pm_meta (d + 1) 317 1041 ([.ref 1, .ref 8, .ref 79, .int x3], [.int s0], ((pm_t (pm_t T 79 (0, 11)) 1 (1, L), O, nx, sl), I, J)) Q ↔ pm_in (x3 + 1) L = true ∧ (pm_wc pm_code pm_meta d 245 [.ref 79, .int (I 1 (x3 + 1).toNatClampNeg)] ((pm_t (pm_t T 79 (0, 11)) 1 (1, L), O, nx, sl), I, J) (fun v w H => pm_wp pm_code pm_meta (d + 1) 317 1050 ([.ref 1, .ref 8, .ref 79, .int x3], [.int v, .int s0], H) Q)) := (pm_bk_iff pc_ch_317 7 1041 _).trans (and_congr Iff.rfl (Iff.rfl))
set_option maxRecDepth 40000 in
theorem ly_1050 {d L : Nat} {b : Bool} {I : Nat → Nat → Int32} {J : Nat → Nat → Int64} {x3 s0 s1 : Int32} {Q : Int32 → Int64 → pm_H → Prop} : pm_wp pm_code pm_meta d 317 1050 ([.ref 1, .ref 8, .ref 79, .int x3], [.int s1, .int s0], (pm_Gb L b, I, J)) Q ↔ if s0 = s1 then pm_wp pm_code pm_meta d 317 2180 ([.ref 1, .ref 8, .ref 79, .int x3], [], (pm_Gb L b, I, J)) Q else pm_wp pm_code pm_meta d 317 1053 ([.ref 1, .ref 8, .ref 79, .int x3], [], (pm_Gb L b, I, J)) Q := (pm_bk_iff pc_ch_317 1 1050 _).trans (pm_brd)
set_option maxRecDepth 40000 in
theorem lw_1055 {d L : Nat} {b : Bool} {I : Nat → Nat → Int32} {J : Nat → Nat → Int64} {x3 : Int32} {Q : Int32 → Int64 → pm_H → Prop} : pm_wp pm_code pm_meta (d + 1) 317 1055 ([.ref 1, .ref 8, .ref 79, .int x3], [], (pm_Gb L b, I, J)) Q ↔ pm_in (x3 + 1) L = true ∧ (pm_wc pm_code pm_meta d 139 [.ref 8, .int (I 1 (x3 + 1).toNatClampNeg)] (pm_Gb L b, I, J) (fun v w H => pm_wp pm_code pm_meta (d + 1) 317 1064 ([.ref 1, .ref 8, .ref 79, .int x3], [.int v], H) Q)) := (pm_bk_iff pc_ch_317 7 1055 _).trans (and_congr Iff.rfl (Iff.rfl))
set_option maxRecDepth 40000 in
theorem lx_1064 {d L nx sl : Nat} {T : Nat → Nat × Nat} {O : Nat → Nat → Nat} {I : Nat → Nat → Int32} {J : Nat → Nat → Int64} {x3 s0 : Int32} {Q : Int32 → Int64 → pm_H → Prop} : pm_wp pm_code pm_meta (d + 1) 317 1064 ([.ref 1, .ref 8, .ref 79, .int x3], [.int s0], ((pm_t (pm_t T 79 (0, 11)) 1 (1, L), O, nx, sl), I, J)) Q ↔ pm_in (x3 + 1) L = true ∧ (pm_wc pm_code pm_meta d 249 [.ref 79, .int (I 1 (x3 + 1).toNatClampNeg)] ((pm_t (pm_t T 79 (0, 11)) 1 (1, L), O, nx, sl), I, J) (fun v w H => pm_wp pm_code pm_meta (d + 1) 317 1073 ([.ref 1, .ref 8, .ref 79, .int x3], [.int v, .int s0], H) Q)) := (pm_bk_iff pc_ch_317 7 1064 _).trans (and_congr Iff.rfl (Iff.rfl))
set_option maxRecDepth 40000 in
theorem ly_1073 {d L : Nat} {b : Bool} {I : Nat → Nat → Int32} {J : Nat → Nat → Int64} {x3 s0 s1 : Int32} {Q : Int32 → Int64 → pm_H → Prop} : pm_wp pm_code pm_meta d 317 1073 ([.ref 1, .ref 8, .ref 79, .int x3], [.int s1, .int s0], (pm_Gb L b, I, J)) Q ↔ if s0 = s1 then pm_wp pm_code pm_meta d 317 2180 ([.ref 1, .ref 8, .ref 79, .int x3], [], (pm_Gb L b, I, J)) Q else pm_wp pm_code pm_meta d 317 1076 ([.ref 1, .ref 8, .ref 79, .int x3], [], (pm_Gb L b, I, J)) Q := (pm_bk_iff pc_ch_317 1 1073 _).trans (pm_brd)
set_option maxRecDepth 40000 in
theorem lw_1078 {d L : Nat} {b : Bool} {I : Nat → Nat → Int32} {J : Nat → Nat → Int64} {x3 : Int32} {Q : Int32 → Int64 → pm_H → Prop} : pm_wp pm_code pm_meta (d + 1) 317 1078 ([.ref 1, .ref 8, .ref 79, .int x3], [], (pm_Gb L b, I, J)) Q ↔ pm_in (x3 + 1) L = true ∧ (pm_in (x3 + 2) L = true ∧ (pm_wc pm_code pm_meta d 141 [.ref 8, .int (I 1 (x3 + 1).toNatClampNeg), .int (I 1 (x3 + 2).toNatClampNeg)] (pm_Gb L b, I, J) (fun v w H => pm_wp pm_code pm_meta (d + 1) 317 1092 ([.ref 1, .ref 8, .ref 79, .int x3], [.int v], H) Q))) := (pm_bk_iff pc_ch_317 12 1078 _).trans (and_congr Iff.rfl (and_congr Iff.rfl (Iff.rfl)))
set_option maxRecDepth 40000 in
theorem lx_1092 {d L nx sl : Nat} {T : Nat → Nat × Nat} {O : Nat → Nat → Nat} {I : Nat → Nat → Int32} {J : Nat → Nat → Int64} {x3 s0 : Int32} {Q : Int32 → Int64 → pm_H → Prop} : pm_wp pm_code pm_meta (d + 1) 317 1092 ([.ref 1, .ref 8, .ref 79, .int x3], [.int s0], ((pm_t (pm_t T 79 (0, 11)) 1 (1, L), O, nx, sl), I, J)) Q ↔ pm_in (x3 + 1) L = true ∧ (pm_in (x3 + 2) L = true ∧ (pm_wc pm_code pm_meta d 250 [.ref 79, .int (I 1 (x3 + 1).toNatClampNeg), .int (I 1 (x3 + 2).toNatClampNeg)] ((pm_t (pm_t T 79 (0, 11)) 1 (1, L), O, nx, sl), I, J) (fun v w H => pm_wp pm_code pm_meta (d + 1) 317 1106 ([.ref 1, .ref 8, .ref 79, .int x3], [.int v, .int s0], H) Q))) := (pm_bk_iff pc_ch_317 12 1092 _).trans (and_congr Iff.rfl (and_congr Iff.rfl (Iff.rfl)))
set_option maxRecDepth 40000 in
theorem ly_1106 {d L : Nat} {b : Bool} {I : Nat → Nat → Int32} {J : Nat → Nat → Int64} {x3 s0 s1 : Int32} {Q : Int32 → Int64 → pm_H → Prop} : pm_wp pm_code pm_meta d 317 1106 ([.ref 1, .ref 8, .ref 79, .int x3], [.int s1, .int s0], (pm_Gb L b, I, J)) Q ↔ if s0 = s1 then pm_wp pm_code pm_meta d 317 2180 ([.ref 1, .ref 8, .ref 79, .int x3], [], (pm_Gb L b, I, J)) Q else pm_wp pm_code pm_meta d 317 1109 ([.ref 1, .ref 8, .ref 79, .int x3], [], (pm_Gb L b, I, J)) Q := (pm_bk_iff pc_ch_317 1 1106 _).trans (pm_brd)
set_option maxRecDepth 40000 in
theorem lw_1111 {d L : Nat} {b : Bool} {I : Nat → Nat → Int32} {J : Nat → Nat → Int64} {x3 : Int32} {Q : Int32 → Int64 → pm_H → Prop} : pm_wp pm_code pm_meta (d + 1) 317 1111 ([.ref 1, .ref 8, .ref 79, .int x3], [], (pm_Gb L b, I, J)) Q ↔ pm_in (x3 + 1) L = true ∧ (pm_in (x3 + 2) L = true ∧ (pm_wc pm_code pm_meta d 142 [.ref 8, .int (I 1 (x3 + 1).toNatClampNeg), .int (I 1 (x3 + 2).toNatClampNeg)] (pm_Gb L b, I, J) (fun v w H => pm_wp pm_code pm_meta (d + 1) 317 1125 ([.ref 1, .ref 8, .ref 79, .int x3], [.int v], H) Q))) := (pm_bk_iff pc_ch_317 12 1111 _).trans (and_congr Iff.rfl (and_congr Iff.rfl (Iff.rfl)))
set_option maxRecDepth 40000 in
theorem lx_1125 {d L nx sl : Nat} {T : Nat → Nat × Nat} {O : Nat → Nat → Nat} {I : Nat → Nat → Int32} {J : Nat → Nat → Int64} {x3 s0 : Int32} {Q : Int32 → Int64 → pm_H → Prop} : pm_wp pm_code pm_meta (d + 1) 317 1125 ([.ref 1, .ref 8, .ref 79, .int x3], [.int s0], ((pm_t (pm_t T 79 (0, 11)) 1 (1, L), O, nx, sl), I, J)) Q ↔ pm_in (x3 + 1) L = true ∧ (pm_in (x3 + 2) L = true ∧ (pm_wc pm_code pm_meta d 251 [.ref 79, .int (I 1 (x3 + 1).toNatClampNeg), .int (I 1 (x3 + 2).toNatClampNeg)] ((pm_t (pm_t T 79 (0, 11)) 1 (1, L), O, nx, sl), I, J) (fun v w H => pm_wp pm_code pm_meta (d + 1) 317 1139 ([.ref 1, .ref 8, .ref 79, .int x3], [.int v, .int s0], H) Q))) := (pm_bk_iff pc_ch_317 12 1125 _).trans (and_congr Iff.rfl (and_congr Iff.rfl (Iff.rfl)))
set_option maxRecDepth 40000 in
theorem ly_1139 {d L : Nat} {b : Bool} {I : Nat → Nat → Int32} {J : Nat → Nat → Int64} {x3 s0 s1 : Int32} {Q : Int32 → Int64 → pm_H → Prop} : pm_wp pm_code pm_meta d 317 1139 ([.ref 1, .ref 8, .ref 79, .int x3], [.int s1, .int s0], (pm_Gb L b, I, J)) Q ↔ if s0 = s1 then pm_wp pm_code pm_meta d 317 2180 ([.ref 1, .ref 8, .ref 79, .int x3], [], (pm_Gb L b, I, J)) Q else pm_wp pm_code pm_meta d 317 1142 ([.ref 1, .ref 8, .ref 79, .int x3], [], (pm_Gb L b, I, J)) Q := (pm_bk_iff pc_ch_317 1 1139 _).trans (pm_brd)
set_option maxRecDepth 40000 in
theorem lw_1144 {d L : Nat} {b : Bool} {I : Nat → Nat → Int32} {J : Nat → Nat → Int64} {x3 : Int32} {Q : Int32 → Int64 → pm_H → Prop} : pm_wp pm_code pm_meta (d + 1) 317 1144 ([.ref 1, .ref 8, .ref 79, .int x3], [], (pm_Gb L b, I, J)) Q ↔ pm_in (x3 + 1) L = true ∧ (pm_in (x3 + 2) L = true ∧ (pm_wc pm_code pm_meta d 143 [.ref 8, .int (I 1 (x3 + 1).toNatClampNeg), .int (I 1 (x3 + 2).toNatClampNeg)] (pm_Gb L b, I, J) (fun v w H => pm_wp pm_code pm_meta (d + 1) 317 1158 ([.ref 1, .ref 8, .ref 79, .int x3], [.int v], H) Q))) := (pm_bk_iff pc_ch_317 12 1144 _).trans (and_congr Iff.rfl (and_congr Iff.rfl (Iff.rfl)))
set_option maxRecDepth 40000 in
theorem lx_1158 {d L nx sl : Nat} {T : Nat → Nat × Nat} {O : Nat → Nat → Nat} {I : Nat → Nat → Int32} {J : Nat → Nat → Int64} {x3 s0 : Int32} {Q : Int32 → Int64 → pm_H → Prop} : pm_wp pm_code pm_meta (d + 1) 317 1158 ([.ref 1, .ref 8, .ref 79, .int x3], [.int s0], ((pm_t (pm_t T 79 (0, 11)) 1 (1, L), O, nx, sl), I, J)) Q ↔ pm_in (x3 + 1) L = true ∧ (pm_in (x3 + 2) L = true ∧ (pm_wc pm_code pm_meta d 252 [.ref 79, .int (I 1 (x3 + 1).toNatClampNeg), .int (I 1 (x3 + 2).toNatClampNeg)] ((pm_t (pm_t T 79 (0, 11)) 1 (1, L), O, nx, sl), I, J) (fun v w H => pm_wp pm_code pm_meta (d + 1) 317 1172 ([.ref 1, .ref 8, .ref 79, .int x3], [.int v, .int s0], H) Q))) := (pm_bk_iff pc_ch_317 12 1158 _).trans (and_congr Iff.rfl (and_congr Iff.rfl (Iff.rfl)))
set_option maxRecDepth 40000 in
theorem ly_1172 {d L : Nat} {b : Bool} {I : Nat → Nat → Int32} {J : Nat → Nat → Int64} {x3 s0 s1 : Int32} {Q : Int32 → Int64 → pm_H → Prop} : pm_wp pm_code pm_meta d 317 1172 ([.ref 1, .ref 8, .ref 79, .int x3], [.int s1, .int s0], (pm_Gb L b, I, J)) Q ↔ if s0 = s1 then pm_wp pm_code pm_meta d 317 2180 ([.ref 1, .ref 8, .ref 79, .int x3], [], (pm_Gb L b, I, J)) Q else pm_wp pm_code pm_meta d 317 1175 ([.ref 1, .ref 8, .ref 79, .int x3], [], (pm_Gb L b, I, J)) Q := (pm_bk_iff pc_ch_317 1 1172 _).trans (pm_brd)
set_option maxRecDepth 40000 in
theorem lw_1177 {d L : Nat} {b : Bool} {I : Nat → Nat → Int32} {J : Nat → Nat → Int64} {x3 : Int32} {Q : Int32 → Int64 → pm_H → Prop} : pm_wp pm_code pm_meta (d + 1) 317 1177 ([.ref 1, .ref 8, .ref 79, .int x3], [], (pm_Gb L b, I, J)) Q ↔ pm_in (x3 + 1) L = true ∧ (pm_in (x3 + 2) L = true ∧ (pm_wc pm_code pm_meta d 144 [.ref 8, .int (I 1 (x3 + 1).toNatClampNeg), .int (I 1 (x3 + 2).toNatClampNeg)] (pm_Gb L b, I, J) (fun v w H => pm_wp pm_code pm_meta (d + 1) 317 1191 ([.ref 1, .ref 8, .ref 79, .int x3], [.int v], H) Q))) := (pm_bk_iff pc_ch_317 12 1177 _).trans (and_congr Iff.rfl (and_congr Iff.rfl (Iff.rfl)))
set_option maxRecDepth 40000 in
theorem lx_1191 {d L nx sl : Nat} {T : Nat → Nat × Nat} {O : Nat → Nat → Nat} {I : Nat → Nat → Int32} {J : Nat → Nat → Int64} {x3 s0 : Int32} {Q : Int32 → Int64 → pm_H → Prop} : pm_wp pm_code pm_meta (d + 1) 317 1191 ([.ref 1, .ref 8, .ref 79, .int x3], [.int s0], ((pm_t (pm_t T 79 (0, 11)) 1 (1, L), O, nx, sl), I, J)) Q ↔ pm_in (x3 + 1) L = true ∧ (pm_in (x3 + 2) L = true ∧ (pm_wc pm_code pm_meta d 253 [.ref 79, .int (I 1 (x3 + 1).toNatClampNeg), .int (I 1 (x3 + 2).toNatClampNeg)] ((pm_t (pm_t T 79 (0, 11)) 1 (1, L), O, nx, sl), I, J) (fun v w H => pm_wp pm_code pm_meta (d + 1) 317 1205 ([.ref 1, .ref 8, .ref 79, .int x3], [.int v, .int s0], H) Q))) := (pm_bk_iff pc_ch_317 12 1191 _).trans (and_congr Iff.rfl (and_congr Iff.rfl (Iff.rfl)))
set_option maxRecDepth 40000 in
theorem ly_1205 {d L : Nat} {b : Bool} {I : Nat → Nat → Int32} {J : Nat → Nat → Int64} {x3 s0 s1 : Int32} {Q : Int32 → Int64 → pm_H → Prop} : pm_wp pm_code pm_meta d 317 1205 ([.ref 1, .ref 8, .ref 79, .int x3], [.int s1, .int s0], (pm_Gb L b, I, J)) Q ↔ if s0 = s1 then pm_wp pm_code pm_meta d 317 2180 ([.ref 1, .ref 8, .ref 79, .int x3], [], (pm_Gb L b, I, J)) Q else pm_wp pm_code pm_meta d 317 1208 ([.ref 1, .ref 8, .ref 79, .int x3], [], (pm_Gb L b, I, J)) Q := (pm_bk_iff pc_ch_317 1 1205 _).trans (pm_brd)
set_option maxRecDepth 40000 in
theorem lw_1210 {d L : Nat} {b : Bool} {I : Nat → Nat → Int32} {J : Nat → Nat → Int64} {x3 : Int32} {Q : Int32 → Int64 → pm_H → Prop} : pm_wp pm_code pm_meta (d + 1) 317 1210 ([.ref 1, .ref 8, .ref 79, .int x3], [], (pm_Gb L b, I, J)) Q ↔ pm_in (x3 + 1) L = true ∧ (pm_in (x3 + 2) L = true ∧ (pm_wc pm_code pm_meta d 145 [.ref 8, .int (I 1 (x3 + 1).toNatClampNeg), .int (I 1 (x3 + 2).toNatClampNeg)] (pm_Gb L b, I, J) (fun v w H => pm_wp pm_code pm_meta (d + 1) 317 1224 ([.ref 1, .ref 8, .ref 79, .int x3], [.int v], H) Q))) := (pm_bk_iff pc_ch_317 12 1210 _).trans (and_congr Iff.rfl (and_congr Iff.rfl (Iff.rfl)))
set_option maxRecDepth 40000 in
theorem lx_1224 {d L nx sl : Nat} {T : Nat → Nat × Nat} {O : Nat → Nat → Nat} {I : Nat → Nat → Int32} {J : Nat → Nat → Int64} {x3 s0 : Int32} {Q : Int32 → Int64 → pm_H → Prop} : pm_wp pm_code pm_meta (d + 1) 317 1224 ([.ref 1, .ref 8, .ref 79, .int x3], [.int s0], ((pm_t (pm_t T 79 (0, 11)) 1 (1, L), O, nx, sl), I, J)) Q ↔ pm_in (x3 + 1) L = true ∧ (pm_in (x3 + 2) L = true ∧ (pm_wc pm_code pm_meta d 254 [.ref 79, .int (I 1 (x3 + 1).toNatClampNeg), .int (I 1 (x3 + 2).toNatClampNeg)] ((pm_t (pm_t T 79 (0, 11)) 1 (1, L), O, nx, sl), I, J) (fun v w H => pm_wp pm_code pm_meta (d + 1) 317 1238 ([.ref 1, .ref 8, .ref 79, .int x3], [.int v, .int s0], H) Q))) := (pm_bk_iff pc_ch_317 12 1224 _).trans (and_congr Iff.rfl (and_congr Iff.rfl (Iff.rfl)))
set_option maxRecDepth 40000 in
theorem ly_1238 {d L : Nat} {b : Bool} {I : Nat → Nat → Int32} {J : Nat → Nat → Int64} {x3 s0 s1 : Int32} {Q : Int32 → Int64 → pm_H → Prop} : pm_wp pm_code pm_meta d 317 1238 ([.ref 1, .ref 8, .ref 79, .int x3], [.int s1, .int s0], (pm_Gb L b, I, J)) Q ↔ if s0 = s1 then pm_wp pm_code pm_meta d 317 2180 ([.ref 1, .ref 8, .ref 79, .int x3], [], (pm_Gb L b, I, J)) Q else pm_wp pm_code pm_meta d 317 1241 ([.ref 1, .ref 8, .ref 79, .int x3], [], (pm_Gb L b, I, J)) Q := (pm_bk_iff pc_ch_317 1 1238 _).trans (pm_brd)
set_option maxRecDepth 40000 in
theorem lw_1243 {d L : Nat} {b : Bool} {I : Nat → Nat → Int32} {J : Nat → Nat → Int64} {x3 : Int32} {Q : Int32 → Int64 → pm_H → Prop} : pm_wp pm_code pm_meta (d + 1) 317 1243 ([.ref 1, .ref 8, .ref 79, .int x3], [], (pm_Gb L b, I, J)) Q ↔ pm_in (x3 + 1) L = true ∧ (pm_in (x3 + 2) L = true ∧ (pm_in (x3 + 3) L = true ∧ (pm_wc pm_code pm_meta d 146 [.ref 8, .int (I 1 (x3 + 1).toNatClampNeg), .int (I 1 (x3 + 2).toNatClampNeg), .int (I 1 (x3 + 3).toNatClampNeg)] (pm_Gb L b, I, J) (fun v w H => pm_wp pm_code pm_meta (d + 1) 317 1262 ([.ref 1, .ref 8, .ref 79, .int x3], [.int v], H) Q)))) := (pm_bk_iff pc_ch_317 17 1243 _).trans (and_congr Iff.rfl (and_congr Iff.rfl (and_congr Iff.rfl (Iff.rfl))))
set_option maxRecDepth 40000 in
theorem lx_1262 {d L nx sl : Nat} {T : Nat → Nat × Nat} {O : Nat → Nat → Nat} {I : Nat → Nat → Int32} {J : Nat → Nat → Int64} {x3 s0 : Int32} {Q : Int32 → Int64 → pm_H → Prop} : pm_wp pm_code pm_meta (d + 1) 317 1262 ([.ref 1, .ref 8, .ref 79, .int x3], [.int s0], ((pm_t (pm_t T 79 (0, 11)) 1 (1, L), O, nx, sl), I, J)) Q ↔ pm_in (x3 + 1) L = true ∧ (pm_in (x3 + 2) L = true ∧ (pm_in (x3 + 3) L = true ∧ (pm_wc pm_code pm_meta d 255 [.ref 79, .int (I 1 (x3 + 1).toNatClampNeg), .int (I 1 (x3 + 2).toNatClampNeg), .int (I 1 (x3 + 3).toNatClampNeg)] ((pm_t (pm_t T 79 (0, 11)) 1 (1, L), O, nx, sl), I, J) (fun v w H => pm_wp pm_code pm_meta (d + 1) 317 1281 ([.ref 1, .ref 8, .ref 79, .int x3], [.int v, .int s0], H) Q)))) := (pm_bk_iff pc_ch_317 17 1262 _).trans (and_congr Iff.rfl (and_congr Iff.rfl (and_congr Iff.rfl (Iff.rfl))))
set_option maxRecDepth 40000 in
theorem ly_1281 {d L : Nat} {b : Bool} {I : Nat → Nat → Int32} {J : Nat → Nat → Int64} {x3 s0 s1 : Int32} {Q : Int32 → Int64 → pm_H → Prop} : pm_wp pm_code pm_meta d 317 1281 ([.ref 1, .ref 8, .ref 79, .int x3], [.int s1, .int s0], (pm_Gb L b, I, J)) Q ↔ if s0 = s1 then pm_wp pm_code pm_meta d 317 2180 ([.ref 1, .ref 8, .ref 79, .int x3], [], (pm_Gb L b, I, J)) Q else pm_wp pm_code pm_meta d 317 1284 ([.ref 1, .ref 8, .ref 79, .int x3], [], (pm_Gb L b, I, J)) Q := (pm_bk_iff pc_ch_317 1 1281 _).trans (pm_brd)
set_option maxRecDepth 40000 in
theorem lw_1286 {d L : Nat} {b : Bool} {I : Nat → Nat → Int32} {J : Nat → Nat → Int64} {x3 : Int32} {Q : Int32 → Int64 → pm_H → Prop} : pm_wp pm_code pm_meta (d + 1) 317 1286 ([.ref 1, .ref 8, .ref 79, .int x3], [], (pm_Gb L b, I, J)) Q ↔ pm_in (x3 + 1) L = true ∧ (pm_wc pm_code pm_meta d 147 [.ref 8, .int (I 1 (x3 + 1).toNatClampNeg)] (pm_Gb L b, I, J) (fun v w H => pm_wp pm_code pm_meta (d + 1) 317 1295 ([.ref 1, .ref 8, .ref 79, .int x3], [.int v], H) Q)) := (pm_bk_iff pc_ch_317 7 1286 _).trans (and_congr Iff.rfl (Iff.rfl))
set_option maxRecDepth 40000 in
theorem lx_1295 {d L nx sl : Nat} {T : Nat → Nat × Nat} {O : Nat → Nat → Nat} {I : Nat → Nat → Int32} {J : Nat → Nat → Int64} {x3 s0 : Int32} {Q : Int32 → Int64 → pm_H → Prop} : pm_wp pm_code pm_meta (d + 1) 317 1295 ([.ref 1, .ref 8, .ref 79, .int x3], [.int s0], ((pm_t (pm_t T 79 (0, 11)) 1 (1, L), O, nx, sl), I, J)) Q ↔ pm_in (x3 + 1) L = true ∧ (pm_wc pm_code pm_meta d 259 [.ref 79, .int (I 1 (x3 + 1).toNatClampNeg)] ((pm_t (pm_t T 79 (0, 11)) 1 (1, L), O, nx, sl), I, J) (fun v w H => pm_wp pm_code pm_meta (d + 1) 317 1304 ([.ref 1, .ref 8, .ref 79, .int x3], [.int v, .int s0], H) Q)) := (pm_bk_iff pc_ch_317 7 1295 _).trans (and_congr Iff.rfl (Iff.rfl))
set_option maxRecDepth 40000 in
theorem ly_1304 {d L : Nat} {b : Bool} {I : Nat → Nat → Int32} {J : Nat → Nat → Int64} {x3 s0 s1 : Int32} {Q : Int32 → Int64 → pm_H → Prop} : pm_wp pm_code pm_meta d 317 1304 ([.ref 1, .ref 8, .ref 79, .int x3], [.int s1, .int s0], (pm_Gb L b, I, J)) Q ↔ if s0 = s1 then pm_wp pm_code pm_meta d 317 2180 ([.ref 1, .ref 8, .ref 79, .int x3], [], (pm_Gb L b, I, J)) Q else pm_wp pm_code pm_meta d 317 1307 ([.ref 1, .ref 8, .ref 79, .int x3], [], (pm_Gb L b, I, J)) Q := (pm_bk_iff pc_ch_317 1 1304 _).trans (pm_brd)
set_option maxRecDepth 40000 in
theorem lw_1309 {d L : Nat} {b : Bool} {I : Nat → Nat → Int32} {J : Nat → Nat → Int64} {x3 : Int32} {Q : Int32 → Int64 → pm_H → Prop} : pm_wp pm_code pm_meta (d + 1) 317 1309 ([.ref 1, .ref 8, .ref 79, .int x3], [], (pm_Gb L b, I, J)) Q ↔ pm_in (x3 + 1) L = true ∧ (pm_in (x3 + 2) L = true ∧ (pm_wc pm_code pm_meta d 148 [.ref 8, .int (I 1 (x3 + 1).toNatClampNeg), .int (I 1 (x3 + 2).toNatClampNeg)] (pm_Gb L b, I, J) (fun v w H => pm_wp pm_code pm_meta (d + 1) 317 1323 ([.ref 1, .ref 8, .ref 79, .int x3], [.int v], H) Q))) := (pm_bk_iff pc_ch_317 12 1309 _).trans (and_congr Iff.rfl (and_congr Iff.rfl (Iff.rfl)))
set_option maxRecDepth 40000 in
theorem lx_1323 {d L nx sl : Nat} {T : Nat → Nat × Nat} {O : Nat → Nat → Nat} {I : Nat → Nat → Int32} {J : Nat → Nat → Int64} {x3 s0 : Int32} {Q : Int32 → Int64 → pm_H → Prop} : pm_wp pm_code pm_meta (d + 1) 317 1323 ([.ref 1, .ref 8, .ref 79, .int x3], [.int s0], ((pm_t (pm_t T 79 (0, 11)) 1 (1, L), O, nx, sl), I, J)) Q ↔ pm_in (x3 + 1) L = true ∧ (pm_in (x3 + 2) L = true ∧ (pm_wc pm_code pm_meta d 260 [.ref 79, .int (I 1 (x3 + 1).toNatClampNeg), .int (I 1 (x3 + 2).toNatClampNeg)] ((pm_t (pm_t T 79 (0, 11)) 1 (1, L), O, nx, sl), I, J) (fun v w H => pm_wp pm_code pm_meta (d + 1) 317 1337 ([.ref 1, .ref 8, .ref 79, .int x3], [.int v, .int s0], H) Q))) := (pm_bk_iff pc_ch_317 12 1323 _).trans (and_congr Iff.rfl (and_congr Iff.rfl (Iff.rfl)))
set_option maxRecDepth 40000 in
theorem ly_1337 {d L : Nat} {b : Bool} {I : Nat → Nat → Int32} {J : Nat → Nat → Int64} {x3 s0 s1 : Int32} {Q : Int32 → Int64 → pm_H → Prop} : pm_wp pm_code pm_meta d 317 1337 ([.ref 1, .ref 8, .ref 79, .int x3], [.int s1, .int s0], (pm_Gb L b, I, J)) Q ↔ if s0 = s1 then pm_wp pm_code pm_meta d 317 2180 ([.ref 1, .ref 8, .ref 79, .int x3], [], (pm_Gb L b, I, J)) Q else pm_wp pm_code pm_meta d 317 1340 ([.ref 1, .ref 8, .ref 79, .int x3], [], (pm_Gb L b, I, J)) Q := (pm_bk_iff pc_ch_317 1 1337 _).trans (pm_brd)
set_option maxRecDepth 40000 in
theorem lw_1342 {d L : Nat} {b : Bool} {I : Nat → Nat → Int32} {J : Nat → Nat → Int64} {x3 : Int32} {Q : Int32 → Int64 → pm_H → Prop} : pm_wp pm_code pm_meta (d + 1) 317 1342 ([.ref 1, .ref 8, .ref 79, .int x3], [], (pm_Gb L b, I, J)) Q ↔ pm_in (x3 + 1) L = true ∧ (pm_in (x3 + 2) L = true ∧ (pm_wc pm_code pm_meta d 149 [.ref 8, .int (I 1 (x3 + 1).toNatClampNeg), .int (I 1 (x3 + 2).toNatClampNeg)] (pm_Gb L b, I, J) (fun v w H => pm_wp pm_code pm_meta (d + 1) 317 1356 ([.ref 1, .ref 8, .ref 79, .int x3], [.int v], H) Q))) := (pm_bk_iff pc_ch_317 12 1342 _).trans (and_congr Iff.rfl (and_congr Iff.rfl (Iff.rfl)))
set_option maxRecDepth 40000 in
theorem lx_1356 {d L nx sl : Nat} {T : Nat → Nat × Nat} {O : Nat → Nat → Nat} {I : Nat → Nat → Int32} {J : Nat → Nat → Int64} {x3 s0 : Int32} {Q : Int32 → Int64 → pm_H → Prop} : pm_wp pm_code pm_meta (d + 1) 317 1356 ([.ref 1, .ref 8, .ref 79, .int x3], [.int s0], ((pm_t (pm_t T 79 (0, 11)) 1 (1, L), O, nx, sl), I, J)) Q ↔ pm_in (x3 + 1) L = true ∧ (pm_in (x3 + 2) L = true ∧ (pm_wc pm_code pm_meta d 261 [.ref 79, .int (I 1 (x3 + 1).toNatClampNeg), .int (I 1 (x3 + 2).toNatClampNeg)] ((pm_t (pm_t T 79 (0, 11)) 1 (1, L), O, nx, sl), I, J) (fun v w H => pm_wp pm_code pm_meta (d + 1) 317 1370 ([.ref 1, .ref 8, .ref 79, .int x3], [.int v, .int s0], H) Q))) := (pm_bk_iff pc_ch_317 12 1356 _).trans (and_congr Iff.rfl (and_congr Iff.rfl (Iff.rfl)))
set_option maxRecDepth 40000 in
theorem ly_1370 {d L : Nat} {b : Bool} {I : Nat → Nat → Int32} {J : Nat → Nat → Int64} {x3 s0 s1 : Int32} {Q : Int32 → Int64 → pm_H → Prop} : pm_wp pm_code pm_meta d 317 1370 ([.ref 1, .ref 8, .ref 79, .int x3], [.int s1, .int s0], (pm_Gb L b, I, J)) Q ↔ if s0 = s1 then pm_wp pm_code pm_meta d 317 2180 ([.ref 1, .ref 8, .ref 79, .int x3], [], (pm_Gb L b, I, J)) Q else pm_wp pm_code pm_meta d 317 1373 ([.ref 1, .ref 8, .ref 79, .int x3], [], (pm_Gb L b, I, J)) Q := (pm_bk_iff pc_ch_317 1 1370 _).trans (pm_brd)
set_option maxRecDepth 40000 in
theorem lw_1375 {d L : Nat} {b : Bool} {I : Nat → Nat → Int32} {J : Nat → Nat → Int64} {x3 : Int32} {Q : Int32 → Int64 → pm_H → Prop} : pm_wp pm_code pm_meta (d + 1) 317 1375 ([.ref 1, .ref 8, .ref 79, .int x3], [], (pm_Gb L b, I, J)) Q ↔ pm_in (x3 + 1) L = true ∧ (pm_in (x3 + 2) L = true ∧ (pm_in (x3 + 3) L = true ∧ (pm_wc pm_code pm_meta d 150 [.ref 8, .int (I 1 (x3 + 1).toNatClampNeg), .int (I 1 (x3 + 2).toNatClampNeg), .int (I 1 (x3 + 3).toNatClampNeg)] (pm_Gb L b, I, J) (fun v w H => pm_wp pm_code pm_meta (d + 1) 317 1394 ([.ref 1, .ref 8, .ref 79, .int x3], [.int v], H) Q)))) := (pm_bk_iff pc_ch_317 17 1375 _).trans (and_congr Iff.rfl (and_congr Iff.rfl (and_congr Iff.rfl (Iff.rfl))))
set_option maxRecDepth 40000 in
theorem lx_1394 {d L nx sl : Nat} {T : Nat → Nat × Nat} {O : Nat → Nat → Nat} {I : Nat → Nat → Int32} {J : Nat → Nat → Int64} {x3 s0 : Int32} {Q : Int32 → Int64 → pm_H → Prop} : pm_wp pm_code pm_meta (d + 1) 317 1394 ([.ref 1, .ref 8, .ref 79, .int x3], [.int s0], ((pm_t (pm_t T 79 (0, 11)) 1 (1, L), O, nx, sl), I, J)) Q ↔ pm_in (x3 + 1) L = true ∧ (pm_in (x3 + 2) L = true ∧ (pm_in (x3 + 3) L = true ∧ (pm_wc pm_code pm_meta d 264 [.ref 79, .int (I 1 (x3 + 1).toNatClampNeg), .int (I 1 (x3 + 2).toNatClampNeg), .int (I 1 (x3 + 3).toNatClampNeg)] ((pm_t (pm_t T 79 (0, 11)) 1 (1, L), O, nx, sl), I, J) (fun v w H => pm_wp pm_code pm_meta (d + 1) 317 1413 ([.ref 1, .ref 8, .ref 79, .int x3], [.int v, .int s0], H) Q)))) := (pm_bk_iff pc_ch_317 17 1394 _).trans (and_congr Iff.rfl (and_congr Iff.rfl (and_congr Iff.rfl (Iff.rfl))))
set_option maxRecDepth 40000 in
theorem ly_1413 {d L : Nat} {b : Bool} {I : Nat → Nat → Int32} {J : Nat → Nat → Int64} {x3 s0 s1 : Int32} {Q : Int32 → Int64 → pm_H → Prop} : pm_wp pm_code pm_meta d 317 1413 ([.ref 1, .ref 8, .ref 79, .int x3], [.int s1, .int s0], (pm_Gb L b, I, J)) Q ↔ if s0 = s1 then pm_wp pm_code pm_meta d 317 2180 ([.ref 1, .ref 8, .ref 79, .int x3], [], (pm_Gb L b, I, J)) Q else pm_wp pm_code pm_meta d 317 1416 ([.ref 1, .ref 8, .ref 79, .int x3], [], (pm_Gb L b, I, J)) Q := (pm_bk_iff pc_ch_317 1 1413 _).trans (pm_brd)
set_option maxRecDepth 40000 in
theorem lw_1418 {d L : Nat} {b : Bool} {I : Nat → Nat → Int32} {J : Nat → Nat → Int64} {x3 : Int32} {Q : Int32 → Int64 → pm_H → Prop} : pm_wp pm_code pm_meta (d + 1) 317 1418 ([.ref 1, .ref 8, .ref 79, .int x3], [], (pm_Gb L b, I, J)) Q ↔ pm_in (x3 + 1) L = true ∧ (pm_in (x3 + 2) L = true ∧ (pm_wc pm_code pm_meta d 151 [.ref 8, .int (I 1 (x3 + 1).toNatClampNeg), .int (I 1 (x3 + 2).toNatClampNeg)] (pm_Gb L b, I, J) (fun v w H => pm_wp pm_code pm_meta (d + 1) 317 1432 ([.ref 1, .ref 8, .ref 79, .int x3], [.int v], H) Q))) := (pm_bk_iff pc_ch_317 12 1418 _).trans (and_congr Iff.rfl (and_congr Iff.rfl (Iff.rfl)))
set_option maxRecDepth 40000 in
theorem lx_1432 {d L nx sl : Nat} {T : Nat → Nat × Nat} {O : Nat → Nat → Nat} {I : Nat → Nat → Int32} {J : Nat → Nat → Int64} {x3 s0 : Int32} {Q : Int32 → Int64 → pm_H → Prop} : pm_wp pm_code pm_meta (d + 1) 317 1432 ([.ref 1, .ref 8, .ref 79, .int x3], [.int s0], ((pm_t (pm_t T 79 (0, 11)) 1 (1, L), O, nx, sl), I, J)) Q ↔ pm_in (x3 + 1) L = true ∧ (pm_in (x3 + 2) L = true ∧ (pm_wc pm_code pm_meta d 266 [.ref 79, .int (I 1 (x3 + 1).toNatClampNeg), .int (I 1 (x3 + 2).toNatClampNeg)] ((pm_t (pm_t T 79 (0, 11)) 1 (1, L), O, nx, sl), I, J) (fun v w H => pm_wp pm_code pm_meta (d + 1) 317 1446 ([.ref 1, .ref 8, .ref 79, .int x3], [.int v, .int s0], H) Q))) := (pm_bk_iff pc_ch_317 12 1432 _).trans (and_congr Iff.rfl (and_congr Iff.rfl (Iff.rfl)))
set_option maxRecDepth 40000 in
theorem ly_1446 {d L : Nat} {b : Bool} {I : Nat → Nat → Int32} {J : Nat → Nat → Int64} {x3 s0 s1 : Int32} {Q : Int32 → Int64 → pm_H → Prop} : pm_wp pm_code pm_meta d 317 1446 ([.ref 1, .ref 8, .ref 79, .int x3], [.int s1, .int s0], (pm_Gb L b, I, J)) Q ↔ if s0 = s1 then pm_wp pm_code pm_meta d 317 2180 ([.ref 1, .ref 8, .ref 79, .int x3], [], (pm_Gb L b, I, J)) Q else pm_wp pm_code pm_meta d 317 1449 ([.ref 1, .ref 8, .ref 79, .int x3], [], (pm_Gb L b, I, J)) Q := (pm_bk_iff pc_ch_317 1 1446 _).trans (pm_brd)
set_option maxRecDepth 40000 in
theorem lw_1451 {d L : Nat} {b : Bool} {I : Nat → Nat → Int32} {J : Nat → Nat → Int64} {x3 : Int32} {Q : Int32 → Int64 → pm_H → Prop} : pm_wp pm_code pm_meta (d + 1) 317 1451 ([.ref 1, .ref 8, .ref 79, .int x3], [], (pm_Gb L b, I, J)) Q ↔ pm_in (x3 + 1) L = true ∧ (pm_in (x3 + 2) L = true ∧ (pm_in (x3 + 3) L = true ∧ (pm_wc pm_code pm_meta d 152 [.ref 8, .int (I 1 (x3 + 1).toNatClampNeg), .int (I 1 (x3 + 2).toNatClampNeg), .int (I 1 (x3 + 3).toNatClampNeg)] (pm_Gb L b, I, J) (fun v w H => pm_wp pm_code pm_meta (d + 1) 317 1470 ([.ref 1, .ref 8, .ref 79, .int x3], [.int v], H) Q)))) := (pm_bk_iff pc_ch_317 17 1451 _).trans (and_congr Iff.rfl (and_congr Iff.rfl (and_congr Iff.rfl (Iff.rfl))))
set_option maxRecDepth 40000 in
theorem lx_1470 {d L nx sl : Nat} {T : Nat → Nat × Nat} {O : Nat → Nat → Nat} {I : Nat → Nat → Int32} {J : Nat → Nat → Int64} {x3 s0 : Int32} {Q : Int32 → Int64 → pm_H → Prop} : pm_wp pm_code pm_meta (d + 1) 317 1470 ([.ref 1, .ref 8, .ref 79, .int x3], [.int s0], ((pm_t (pm_t T 79 (0, 11)) 1 (1, L), O, nx, sl), I, J)) Q ↔ pm_in (x3 + 1) L = true ∧ (pm_in (x3 + 2) L = true ∧ (pm_in (x3 + 3) L = true ∧ (pm_wc pm_code pm_meta d 267 [.ref 79, .int (I 1 (x3 + 1).toNatClampNeg), .int (I 1 (x3 + 2).toNatClampNeg), .int (I 1 (x3 + 3).toNatClampNeg)] ((pm_t (pm_t T 79 (0, 11)) 1 (1, L), O, nx, sl), I, J) (fun v w H => pm_wp pm_code pm_meta (d + 1) 317 1489 ([.ref 1, .ref 8, .ref 79, .int x3], [.int v, .int s0], H) Q)))) := (pm_bk_iff pc_ch_317 17 1470 _).trans (and_congr Iff.rfl (and_congr Iff.rfl (and_congr Iff.rfl (Iff.rfl))))
set_option maxRecDepth 40000 in
theorem ly_1489 {d L : Nat} {b : Bool} {I : Nat → Nat → Int32} {J : Nat → Nat → Int64} {x3 s0 s1 : Int32} {Q : Int32 → Int64 → pm_H → Prop} : pm_wp pm_code pm_meta d 317 1489 ([.ref 1, .ref 8, .ref 79, .int x3], [.int s1, .int s0], (pm_Gb L b, I, J)) Q ↔ if s0 = s1 then pm_wp pm_code pm_meta d 317 2180 ([.ref 1, .ref 8, .ref 79, .int x3], [], (pm_Gb L b, I, J)) Q else pm_wp pm_code pm_meta d 317 1492 ([.ref 1, .ref 8, .ref 79, .int x3], [], (pm_Gb L b, I, J)) Q := (pm_bk_iff pc_ch_317 1 1489 _).trans (pm_brd)
set_option maxRecDepth 40000 in
theorem lw_1494 {d L : Nat} {b : Bool} {I : Nat → Nat → Int32} {J : Nat → Nat → Int64} {x3 : Int32} {Q : Int32 → Int64 → pm_H → Prop} : pm_wp pm_code pm_meta (d + 1) 317 1494 ([.ref 1, .ref 8, .ref 79, .int x3], [], (pm_Gb L b, I, J)) Q ↔ pm_wc pm_code pm_meta d 153 [.ref 8] (pm_Gb L b, I, J) (fun v w H => pm_wp pm_code pm_meta (d + 1) 317 1498 ([.ref 1, .ref 8, .ref 79, .int x3], [.int v], H) Q) := (pm_bk_iff pc_ch_317 2 1494 _).trans (Iff.rfl)
set_option maxRecDepth 40000 in
theorem lx_1498 {d L nx sl : Nat} {T : Nat → Nat × Nat} {O : Nat → Nat → Nat} {I : Nat → Nat → Int32} {J : Nat → Nat → Int64} {x3 s0 : Int32} {Q : Int32 → Int64 → pm_H → Prop} : pm_wp pm_code pm_meta (d + 1) 317 1498 ([.ref 1, .ref 8, .ref 79, .int x3], [.int s0], ((pm_t (pm_t T 79 (0, 11)) 1 (1, L), O, nx, sl), I, J)) Q ↔ pm_wc pm_code pm_meta d 268 [.ref 79] ((pm_t (pm_t T 79 (0, 11)) 1 (1, L), O, nx, sl), I, J) (fun v w H => pm_wp pm_code pm_meta (d + 1) 317 1502 ([.ref 1, .ref 8, .ref 79, .int x3], [.int v, .int s0], H) Q) := (pm_bk_iff pc_ch_317 2 1498 _).trans (Iff.rfl)
set_option maxRecDepth 40000 in
theorem ly_1502 {d L : Nat} {b : Bool} {I : Nat → Nat → Int32} {J : Nat → Nat → Int64} {x3 s0 s1 : Int32} {Q : Int32 → Int64 → pm_H → Prop} : pm_wp pm_code pm_meta d 317 1502 ([.ref 1, .ref 8, .ref 79, .int x3], [.int s1, .int s0], (pm_Gb L b, I, J)) Q ↔ if s0 = s1 then pm_wp pm_code pm_meta d 317 2180 ([.ref 1, .ref 8, .ref 79, .int x3], [], (pm_Gb L b, I, J)) Q else pm_wp pm_code pm_meta d 317 1505 ([.ref 1, .ref 8, .ref 79, .int x3], [], (pm_Gb L b, I, J)) Q := (pm_bk_iff pc_ch_317 1 1502 _).trans (pm_brd)
set_option maxRecDepth 40000 in
theorem lw_1507 {d L : Nat} {b : Bool} {I : Nat → Nat → Int32} {J : Nat → Nat → Int64} {x3 : Int32} {Q : Int32 → Int64 → pm_H → Prop} : pm_wp pm_code pm_meta (d + 1) 317 1507 ([.ref 1, .ref 8, .ref 79, .int x3], [], (pm_Gb L b, I, J)) Q ↔ pm_wc pm_code pm_meta d 154 [.ref 8] (pm_Gb L b, I, J) (fun v w H => pm_wp pm_code pm_meta (d + 1) 317 1511 ([.ref 1, .ref 8, .ref 79, .int x3], [.int v], H) Q) := (pm_bk_iff pc_ch_317 2 1507 _).trans (Iff.rfl)
set_option maxRecDepth 40000 in
theorem lx_1511 {d L nx sl : Nat} {T : Nat → Nat × Nat} {O : Nat → Nat → Nat} {I : Nat → Nat → Int32} {J : Nat → Nat → Int64} {x3 s0 : Int32} {Q : Int32 → Int64 → pm_H → Prop} : pm_wp pm_code pm_meta (d + 1) 317 1511 ([.ref 1, .ref 8, .ref 79, .int x3], [.int s0], ((pm_t (pm_t T 79 (0, 11)) 1 (1, L), O, nx, sl), I, J)) Q ↔ pm_wc pm_code pm_meta d 269 [.ref 79] ((pm_t (pm_t T 79 (0, 11)) 1 (1, L), O, nx, sl), I, J) (fun v w H => pm_wp pm_code pm_meta (d + 1) 317 1515 ([.ref 1, .ref 8, .ref 79, .int x3], [.int v, .int s0], H) Q) := (pm_bk_iff pc_ch_317 2 1511 _).trans (Iff.rfl)
set_option maxRecDepth 40000 in
theorem ly_1515 {d L : Nat} {b : Bool} {I : Nat → Nat → Int32} {J : Nat → Nat → Int64} {x3 s0 s1 : Int32} {Q : Int32 → Int64 → pm_H → Prop} : pm_wp pm_code pm_meta d 317 1515 ([.ref 1, .ref 8, .ref 79, .int x3], [.int s1, .int s0], (pm_Gb L b, I, J)) Q ↔ if s0 = s1 then pm_wp pm_code pm_meta d 317 2180 ([.ref 1, .ref 8, .ref 79, .int x3], [], (pm_Gb L b, I, J)) Q else pm_wp pm_code pm_meta d 317 1518 ([.ref 1, .ref 8, .ref 79, .int x3], [], (pm_Gb L b, I, J)) Q := (pm_bk_iff pc_ch_317 1 1515 _).trans (pm_brd)
set_option maxRecDepth 40000 in
theorem lw_1520 {d L : Nat} {b : Bool} {I : Nat → Nat → Int32} {J : Nat → Nat → Int64} {x3 : Int32} {Q : Int32 → Int64 → pm_H → Prop} : pm_wp pm_code pm_meta (d + 1) 317 1520 ([.ref 1, .ref 8, .ref 79, .int x3], [], (pm_Gb L b, I, J)) Q ↔ pm_in (x3 + 1) L = true ∧ (pm_wc pm_code pm_meta d 155 [.ref 8, .int (I 1 (x3 + 1).toNatClampNeg)] (pm_Gb L b, I, J) (fun v w H => pm_wp pm_code pm_meta (d + 1) 317 1529 ([.ref 1, .ref 8, .ref 79, .int x3], [.int v], H) Q)) := (pm_bk_iff pc_ch_317 7 1520 _).trans (and_congr Iff.rfl (Iff.rfl))
set_option maxRecDepth 40000 in
theorem lx_1529 {d L nx sl : Nat} {T : Nat → Nat × Nat} {O : Nat → Nat → Nat} {I : Nat → Nat → Int32} {J : Nat → Nat → Int64} {x3 s0 : Int32} {Q : Int32 → Int64 → pm_H → Prop} : pm_wp pm_code pm_meta (d + 1) 317 1529 ([.ref 1, .ref 8, .ref 79, .int x3], [.int s0], ((pm_t (pm_t T 79 (0, 11)) 1 (1, L), O, nx, sl), I, J)) Q ↔ pm_in (x3 + 1) L = true ∧ (pm_wc pm_code pm_meta d 270 [.ref 79, .int (I 1 (x3 + 1).toNatClampNeg)] ((pm_t (pm_t T 79 (0, 11)) 1 (1, L), O, nx, sl), I, J) (fun v w H => pm_wp pm_code pm_meta (d + 1) 317 1538 ([.ref 1, .ref 8, .ref 79, .int x3], [.int v, .int s0], H) Q)) := (pm_bk_iff pc_ch_317 7 1529 _).trans (and_congr Iff.rfl (Iff.rfl))
set_option maxRecDepth 40000 in
theorem ly_1538 {d L : Nat} {b : Bool} {I : Nat → Nat → Int32} {J : Nat → Nat → Int64} {x3 s0 s1 : Int32} {Q : Int32 → Int64 → pm_H → Prop} : pm_wp pm_code pm_meta d 317 1538 ([.ref 1, .ref 8, .ref 79, .int x3], [.int s1, .int s0], (pm_Gb L b, I, J)) Q ↔ if s0 = s1 then pm_wp pm_code pm_meta d 317 2180 ([.ref 1, .ref 8, .ref 79, .int x3], [], (pm_Gb L b, I, J)) Q else pm_wp pm_code pm_meta d 317 1541 ([.ref 1, .ref 8, .ref 79, .int x3], [], (pm_Gb L b, I, J)) Q := (pm_bk_iff pc_ch_317 1 1538 _).trans (pm_brd)
set_option maxRecDepth 40000 in
theorem lw_1543 {d L : Nat} {b : Bool} {I : Nat → Nat → Int32} {J : Nat → Nat → Int64} {x3 : Int32} {Q : Int32 → Int64 → pm_H → Prop} : pm_wp pm_code pm_meta (d + 1) 317 1543 ([.ref 1, .ref 8, .ref 79, .int x3], [], (pm_Gb L b, I, J)) Q ↔ pm_in (x3 + 1) L = true ∧ (pm_wc pm_code pm_meta d 156 [.ref 8, .int (I 1 (x3 + 1).toNatClampNeg)] (pm_Gb L b, I, J) (fun v w H => pm_wp pm_code pm_meta (d + 1) 317 1552 ([.ref 1, .ref 8, .ref 79, .int x3], [.int v], H) Q)) := (pm_bk_iff pc_ch_317 7 1543 _).trans (and_congr Iff.rfl (Iff.rfl))
set_option maxRecDepth 40000 in
theorem lx_1552 {d L nx sl : Nat} {T : Nat → Nat × Nat} {O : Nat → Nat → Nat} {I : Nat → Nat → Int32} {J : Nat → Nat → Int64} {x3 s0 : Int32} {Q : Int32 → Int64 → pm_H → Prop} : pm_wp pm_code pm_meta (d + 1) 317 1552 ([.ref 1, .ref 8, .ref 79, .int x3], [.int s0], ((pm_t (pm_t T 79 (0, 11)) 1 (1, L), O, nx, sl), I, J)) Q ↔ pm_in (x3 + 1) L = true ∧ (pm_wc pm_code pm_meta d 271 [.ref 79, .int (I 1 (x3 + 1).toNatClampNeg)] ((pm_t (pm_t T 79 (0, 11)) 1 (1, L), O, nx, sl), I, J) (fun v w H => pm_wp pm_code pm_meta (d + 1) 317 1561 ([.ref 1, .ref 8, .ref 79, .int x3], [.int v, .int s0], H) Q)) := (pm_bk_iff pc_ch_317 7 1552 _).trans (and_congr Iff.rfl (Iff.rfl))
set_option maxRecDepth 40000 in
theorem ly_1561 {d L : Nat} {b : Bool} {I : Nat → Nat → Int32} {J : Nat → Nat → Int64} {x3 s0 s1 : Int32} {Q : Int32 → Int64 → pm_H → Prop} : pm_wp pm_code pm_meta d 317 1561 ([.ref 1, .ref 8, .ref 79, .int x3], [.int s1, .int s0], (pm_Gb L b, I, J)) Q ↔ if s0 = s1 then pm_wp pm_code pm_meta d 317 2180 ([.ref 1, .ref 8, .ref 79, .int x3], [], (pm_Gb L b, I, J)) Q else pm_wp pm_code pm_meta d 317 1564 ([.ref 1, .ref 8, .ref 79, .int x3], [], (pm_Gb L b, I, J)) Q := (pm_bk_iff pc_ch_317 1 1561 _).trans (pm_brd)
set_option maxRecDepth 40000 in
theorem lw_1566 {d L : Nat} {b : Bool} {I : Nat → Nat → Int32} {J : Nat → Nat → Int64} {x3 : Int32} {Q : Int32 → Int64 → pm_H → Prop} : pm_wp pm_code pm_meta (d + 1) 317 1566 ([.ref 1, .ref 8, .ref 79, .int x3], [], (pm_Gb L b, I, J)) Q ↔ pm_wc pm_code pm_meta d 157 [.ref 8] (pm_Gb L b, I, J) (fun v w H => pm_wp pm_code pm_meta (d + 1) 317 1570 ([.ref 1, .ref 8, .ref 79, .int x3], [.int v], H) Q) := (pm_bk_iff pc_ch_317 2 1566 _).trans (Iff.rfl)
set_option maxRecDepth 40000 in
theorem lx_1570 {d L nx sl : Nat} {T : Nat → Nat × Nat} {O : Nat → Nat → Nat} {I : Nat → Nat → Int32} {J : Nat → Nat → Int64} {x3 s0 : Int32} {Q : Int32 → Int64 → pm_H → Prop} : pm_wp pm_code pm_meta (d + 1) 317 1570 ([.ref 1, .ref 8, .ref 79, .int x3], [.int s0], ((pm_t (pm_t T 79 (0, 11)) 1 (1, L), O, nx, sl), I, J)) Q ↔ pm_wc pm_code pm_meta d 272 [.ref 79] ((pm_t (pm_t T 79 (0, 11)) 1 (1, L), O, nx, sl), I, J) (fun v w H => pm_wp pm_code pm_meta (d + 1) 317 1574 ([.ref 1, .ref 8, .ref 79, .int x3], [.int v, .int s0], H) Q) := (pm_bk_iff pc_ch_317 2 1570 _).trans (Iff.rfl)
set_option maxRecDepth 40000 in
theorem ly_1574 {d L : Nat} {b : Bool} {I : Nat → Nat → Int32} {J : Nat → Nat → Int64} {x3 s0 s1 : Int32} {Q : Int32 → Int64 → pm_H → Prop} : pm_wp pm_code pm_meta d 317 1574 ([.ref 1, .ref 8, .ref 79, .int x3], [.int s1, .int s0], (pm_Gb L b, I, J)) Q ↔ if s0 = s1 then pm_wp pm_code pm_meta d 317 2180 ([.ref 1, .ref 8, .ref 79, .int x3], [], (pm_Gb L b, I, J)) Q else pm_wp pm_code pm_meta d 317 1577 ([.ref 1, .ref 8, .ref 79, .int x3], [], (pm_Gb L b, I, J)) Q := (pm_bk_iff pc_ch_317 1 1574 _).trans (pm_brd)
set_option maxRecDepth 40000 in
theorem lw_1579 {d L : Nat} {b : Bool} {I : Nat → Nat → Int32} {J : Nat → Nat → Int64} {x3 : Int32} {Q : Int32 → Int64 → pm_H → Prop} : pm_wp pm_code pm_meta (d + 1) 317 1579 ([.ref 1, .ref 8, .ref 79, .int x3], [], (pm_Gb L b, I, J)) Q ↔ pm_in (x3 + 1) L = true ∧ (pm_in (x3 + 2) L = true ∧ (pm_wc pm_code pm_meta d 158 [.ref 8, .int (I 1 (x3 + 1).toNatClampNeg), .int (I 1 (x3 + 2).toNatClampNeg)] (pm_Gb L b, I, J) (fun v w H => pm_wp pm_code pm_meta (d + 1) 317 1593 ([.ref 1, .ref 8, .ref 79, .int x3], [.int v], H) Q))) := (pm_bk_iff pc_ch_317 12 1579 _).trans (and_congr Iff.rfl (and_congr Iff.rfl (Iff.rfl)))
set_option maxRecDepth 40000 in
theorem lx_1593 {d L nx sl : Nat} {T : Nat → Nat × Nat} {O : Nat → Nat → Nat} {I : Nat → Nat → Int32} {J : Nat → Nat → Int64} {x3 s0 : Int32} {Q : Int32 → Int64 → pm_H → Prop} : pm_wp pm_code pm_meta (d + 1) 317 1593 ([.ref 1, .ref 8, .ref 79, .int x3], [.int s0], ((pm_t (pm_t T 79 (0, 11)) 1 (1, L), O, nx, sl), I, J)) Q ↔ pm_in (x3 + 1) L = true ∧ (pm_in (x3 + 2) L = true ∧ (pm_wc pm_code pm_meta d 275 [.ref 79, .int (I 1 (x3 + 1).toNatClampNeg), .int (I 1 (x3 + 2).toNatClampNeg)] ((pm_t (pm_t T 79 (0, 11)) 1 (1, L), O, nx, sl), I, J) (fun v w H => pm_wp pm_code pm_meta (d + 1) 317 1607 ([.ref 1, .ref 8, .ref 79, .int x3], [.int v, .int s0], H) Q))) := (pm_bk_iff pc_ch_317 12 1593 _).trans (and_congr Iff.rfl (and_congr Iff.rfl (Iff.rfl)))
set_option maxRecDepth 40000 in
theorem ly_1607 {d L : Nat} {b : Bool} {I : Nat → Nat → Int32} {J : Nat → Nat → Int64} {x3 s0 s1 : Int32} {Q : Int32 → Int64 → pm_H → Prop} : pm_wp pm_code pm_meta d 317 1607 ([.ref 1, .ref 8, .ref 79, .int x3], [.int s1, .int s0], (pm_Gb L b, I, J)) Q ↔ if s0 = s1 then pm_wp pm_code pm_meta d 317 2180 ([.ref 1, .ref 8, .ref 79, .int x3], [], (pm_Gb L b, I, J)) Q else pm_wp pm_code pm_meta d 317 1610 ([.ref 1, .ref 8, .ref 79, .int x3], [], (pm_Gb L b, I, J)) Q := (pm_bk_iff pc_ch_317 1 1607 _).trans (pm_brd)
set_option maxRecDepth 40000 in
theorem lw_1612 {d L : Nat} {b : Bool} {I : Nat → Nat → Int32} {J : Nat → Nat → Int64} {x3 : Int32} {Q : Int32 → Int64 → pm_H → Prop} : pm_wp pm_code pm_meta (d + 1) 317 1612 ([.ref 1, .ref 8, .ref 79, .int x3], [], (pm_Gb L b, I, J)) Q ↔ pm_in (x3 + 1) L = true ∧ (pm_in (x3 + 2) L = true ∧ (pm_in (x3 + 3) L = true ∧ (pm_in (x3 + 4) L = true ∧ (pm_in (x3 + 5) L = true ∧ (pm_wc pm_code pm_meta d 159 [.ref 8, .int (I 1 (x3 + 1).toNatClampNeg), .int (I 1 (x3 + 2).toNatClampNeg), .int (I 1 (x3 + 3).toNatClampNeg), .int (I 1 (x3 + 4).toNatClampNeg), .int (I 1 (x3 + 5).toNatClampNeg)] (pm_Gb L b, I, J) (fun v w H => pm_wp pm_code pm_meta (d + 1) 317 1641 ([.ref 1, .ref 8, .ref 79, .int x3], [.int v], H) Q)))))) := (pm_bk_iff pc_ch_317 27 1612 _).trans (and_congr Iff.rfl (and_congr Iff.rfl (and_congr Iff.rfl (and_congr Iff.rfl (and_congr Iff.rfl (Iff.rfl))))))
set_option maxRecDepth 40000 in
theorem lx_1641 {d L nx sl : Nat} {T : Nat → Nat × Nat} {O : Nat → Nat → Nat} {I : Nat → Nat → Int32} {J : Nat → Nat → Int64} {x3 s0 : Int32} {Q : Int32 → Int64 → pm_H → Prop} : pm_wp pm_code pm_meta (d + 1) 317 1641 ([.ref 1, .ref 8, .ref 79, .int x3], [.int s0], ((pm_t (pm_t T 79 (0, 11)) 1 (1, L), O, nx, sl), I, J)) Q ↔ pm_in (x3 + 1) L = true ∧ (pm_in (x3 + 2) L = true ∧ (pm_in (x3 + 3) L = true ∧ (pm_in (x3 + 4) L = true ∧ (pm_in (x3 + 5) L = true ∧ (pm_wc pm_code pm_meta d 277 [.ref 79, .int (I 1 (x3 + 1).toNatClampNeg), .int (I 1 (x3 + 2).toNatClampNeg), .int (I 1 (x3 + 3).toNatClampNeg), .int (I 1 (x3 + 4).toNatClampNeg), .int (I 1 (x3 + 5).toNatClampNeg)] ((pm_t (pm_t T 79 (0, 11)) 1 (1, L), O, nx, sl), I, J) (fun v w H => pm_wp pm_code pm_meta (d + 1) 317 1670 ([.ref 1, .ref 8, .ref 79, .int x3], [.int v, .int s0], H) Q)))))) := (pm_bk_iff pc_ch_317 27 1641 _).trans (and_congr Iff.rfl (and_congr Iff.rfl (and_congr Iff.rfl (and_congr Iff.rfl (and_congr Iff.rfl (Iff.rfl))))))
set_option maxRecDepth 40000 in
theorem ly_1670 {d L : Nat} {b : Bool} {I : Nat → Nat → Int32} {J : Nat → Nat → Int64} {x3 s0 s1 : Int32} {Q : Int32 → Int64 → pm_H → Prop} : pm_wp pm_code pm_meta d 317 1670 ([.ref 1, .ref 8, .ref 79, .int x3], [.int s1, .int s0], (pm_Gb L b, I, J)) Q ↔ if s0 = s1 then pm_wp pm_code pm_meta d 317 2180 ([.ref 1, .ref 8, .ref 79, .int x3], [], (pm_Gb L b, I, J)) Q else pm_wp pm_code pm_meta d 317 1673 ([.ref 1, .ref 8, .ref 79, .int x3], [], (pm_Gb L b, I, J)) Q := (pm_bk_iff pc_ch_317 1 1670 _).trans (pm_brd)
set_option maxRecDepth 40000 in
theorem lw_1675 {d L : Nat} {b : Bool} {I : Nat → Nat → Int32} {J : Nat → Nat → Int64} {x3 : Int32} {Q : Int32 → Int64 → pm_H → Prop} : pm_wp pm_code pm_meta (d + 1) 317 1675 ([.ref 1, .ref 8, .ref 79, .int x3], [], (pm_Gb L b, I, J)) Q ↔ pm_in (x3 + 1) L = true ∧ (pm_in (x3 + 2) L = true ∧ (pm_in (x3 + 3) L = true ∧ (pm_wc pm_code pm_meta d 160 [.ref 8, .int (I 1 (x3 + 1).toNatClampNeg), .int (I 1 (x3 + 2).toNatClampNeg), .int (I 1 (x3 + 3).toNatClampNeg)] (pm_Gb L b, I, J) (fun v w H => pm_wp pm_code pm_meta (d + 1) 317 1694 ([.ref 1, .ref 8, .ref 79, .int x3], [.int v], H) Q)))) := (pm_bk_iff pc_ch_317 17 1675 _).trans (and_congr Iff.rfl (and_congr Iff.rfl (and_congr Iff.rfl (Iff.rfl))))
set_option maxRecDepth 40000 in
theorem lx_1694 {d L nx sl : Nat} {T : Nat → Nat × Nat} {O : Nat → Nat → Nat} {I : Nat → Nat → Int32} {J : Nat → Nat → Int64} {x3 s0 : Int32} {Q : Int32 → Int64 → pm_H → Prop} : pm_wp pm_code pm_meta (d + 1) 317 1694 ([.ref 1, .ref 8, .ref 79, .int x3], [.int s0], ((pm_t (pm_t T 79 (0, 11)) 1 (1, L), O, nx, sl), I, J)) Q ↔ pm_in (x3 + 1) L = true ∧ (pm_in (x3 + 2) L = true ∧ (pm_in (x3 + 3) L = true ∧ (pm_wc pm_code pm_meta d 279 [.ref 79, .int (I 1 (x3 + 1).toNatClampNeg), .int (I 1 (x3 + 2).toNatClampNeg), .int (I 1 (x3 + 3).toNatClampNeg)] ((pm_t (pm_t T 79 (0, 11)) 1 (1, L), O, nx, sl), I, J) (fun v w H => pm_wp pm_code pm_meta (d + 1) 317 1713 ([.ref 1, .ref 8, .ref 79, .int x3], [.int v, .int s0], H) Q)))) := (pm_bk_iff pc_ch_317 17 1694 _).trans (and_congr Iff.rfl (and_congr Iff.rfl (and_congr Iff.rfl (Iff.rfl))))
set_option maxRecDepth 40000 in
theorem ly_1713 {d L : Nat} {b : Bool} {I : Nat → Nat → Int32} {J : Nat → Nat → Int64} {x3 s0 s1 : Int32} {Q : Int32 → Int64 → pm_H → Prop} : pm_wp pm_code pm_meta d 317 1713 ([.ref 1, .ref 8, .ref 79, .int x3], [.int s1, .int s0], (pm_Gb L b, I, J)) Q ↔ if s0 = s1 then pm_wp pm_code pm_meta d 317 2180 ([.ref 1, .ref 8, .ref 79, .int x3], [], (pm_Gb L b, I, J)) Q else pm_wp pm_code pm_meta d 317 1716 ([.ref 1, .ref 8, .ref 79, .int x3], [], (pm_Gb L b, I, J)) Q := (pm_bk_iff pc_ch_317 1 1713 _).trans (pm_brd)
set_option maxRecDepth 40000 in
theorem lw_1718 {d L : Nat} {b : Bool} {I : Nat → Nat → Int32} {J : Nat → Nat → Int64} {x3 : Int32} {Q : Int32 → Int64 → pm_H → Prop} : pm_wp pm_code pm_meta (d + 1) 317 1718 ([.ref 1, .ref 8, .ref 79, .int x3], [], (pm_Gb L b, I, J)) Q ↔ pm_in (x3 + 1) L = true ∧ (pm_in (x3 + 2) L = true ∧ (pm_wc pm_code pm_meta d 161 [.ref 8, .int (I 1 (x3 + 1).toNatClampNeg), .int (I 1 (x3 + 2).toNatClampNeg)] (pm_Gb L b, I, J) (fun v w H => pm_wp pm_code pm_meta (d + 1) 317 1732 ([.ref 1, .ref 8, .ref 79, .int x3], [.int v], H) Q))) := (pm_bk_iff pc_ch_317 12 1718 _).trans (and_congr Iff.rfl (and_congr Iff.rfl (Iff.rfl)))
set_option maxRecDepth 40000 in
theorem lx_1732 {d L nx sl : Nat} {T : Nat → Nat × Nat} {O : Nat → Nat → Nat} {I : Nat → Nat → Int32} {J : Nat → Nat → Int64} {x3 s0 : Int32} {Q : Int32 → Int64 → pm_H → Prop} : pm_wp pm_code pm_meta (d + 1) 317 1732 ([.ref 1, .ref 8, .ref 79, .int x3], [.int s0], ((pm_t (pm_t T 79 (0, 11)) 1 (1, L), O, nx, sl), I, J)) Q ↔ pm_in (x3 + 1) L = true ∧ (pm_in (x3 + 2) L = true ∧ (pm_wc pm_code pm_meta d 280 [.ref 79, .int (I 1 (x3 + 1).toNatClampNeg), .int (I 1 (x3 + 2).toNatClampNeg)] ((pm_t (pm_t T 79 (0, 11)) 1 (1, L), O, nx, sl), I, J) (fun v w H => pm_wp pm_code pm_meta (d + 1) 317 1746 ([.ref 1, .ref 8, .ref 79, .int x3], [.int v, .int s0], H) Q))) := (pm_bk_iff pc_ch_317 12 1732 _).trans (and_congr Iff.rfl (and_congr Iff.rfl (Iff.rfl)))
set_option maxRecDepth 40000 in
theorem ly_1746 {d L : Nat} {b : Bool} {I : Nat → Nat → Int32} {J : Nat → Nat → Int64} {x3 s0 s1 : Int32} {Q : Int32 → Int64 → pm_H → Prop} : pm_wp pm_code pm_meta d 317 1746 ([.ref 1, .ref 8, .ref 79, .int x3], [.int s1, .int s0], (pm_Gb L b, I, J)) Q ↔ if s0 = s1 then pm_wp pm_code pm_meta d 317 2180 ([.ref 1, .ref 8, .ref 79, .int x3], [], (pm_Gb L b, I, J)) Q else pm_wp pm_code pm_meta d 317 1749 ([.ref 1, .ref 8, .ref 79, .int x3], [], (pm_Gb L b, I, J)) Q := (pm_bk_iff pc_ch_317 1 1746 _).trans (pm_brd)
set_option maxRecDepth 40000 in
theorem lw_1751 {d L : Nat} {b : Bool} {I : Nat → Nat → Int32} {J : Nat → Nat → Int64} {x3 : Int32} {Q : Int32 → Int64 → pm_H → Prop} : pm_wp pm_code pm_meta (d + 1) 317 1751 ([.ref 1, .ref 8, .ref 79, .int x3], [], (pm_Gb L b, I, J)) Q ↔ pm_in (x3 + 1) L = true ∧ (pm_in (x3 + 2) L = true ∧ (pm_in (x3 + 3) L = true ∧ (pm_in (x3 + 4) L = true ∧ (pm_wc pm_code pm_meta d 162 [.ref 8, .int (I 1 (x3 + 1).toNatClampNeg), .int (I 1 (x3 + 2).toNatClampNeg), .int (I 1 (x3 + 3).toNatClampNeg), .int (I 1 (x3 + 4).toNatClampNeg)] (pm_Gb L b, I, J) (fun v w H => pm_wp pm_code pm_meta (d + 1) 317 1775 ([.ref 1, .ref 8, .ref 79, .int x3], [.int v], H) Q))))) := (pm_bk_iff pc_ch_317 22 1751 _).trans (and_congr Iff.rfl (and_congr Iff.rfl (and_congr Iff.rfl (and_congr Iff.rfl (Iff.rfl)))))
set_option maxRecDepth 40000 in
theorem lx_1775 {d L nx sl : Nat} {T : Nat → Nat × Nat} {O : Nat → Nat → Nat} {I : Nat → Nat → Int32} {J : Nat → Nat → Int64} {x3 s0 : Int32} {Q : Int32 → Int64 → pm_H → Prop} : pm_wp pm_code pm_meta (d + 1) 317 1775 ([.ref 1, .ref 8, .ref 79, .int x3], [.int s0], ((pm_t (pm_t T 79 (0, 11)) 1 (1, L), O, nx, sl), I, J)) Q ↔ pm_in (x3 + 1) L = true ∧ (pm_in (x3 + 2) L = true ∧ (pm_in (x3 + 3) L = true ∧ (pm_in (x3 + 4) L = true ∧ (pm_wc pm_code pm_meta d 281 [.ref 79, .int (I 1 (x3 + 1).toNatClampNeg), .int (I 1 (x3 + 2).toNatClampNeg), .int (I 1 (x3 + 3).toNatClampNeg), .int (I 1 (x3 + 4).toNatClampNeg)] ((pm_t (pm_t T 79 (0, 11)) 1 (1, L), O, nx, sl), I, J) (fun v w H => pm_wp pm_code pm_meta (d + 1) 317 1799 ([.ref 1, .ref 8, .ref 79, .int x3], [.int v, .int s0], H) Q))))) := (pm_bk_iff pc_ch_317 22 1775 _).trans (and_congr Iff.rfl (and_congr Iff.rfl (and_congr Iff.rfl (and_congr Iff.rfl (Iff.rfl)))))
set_option maxRecDepth 40000 in
theorem ly_1799 {d L : Nat} {b : Bool} {I : Nat → Nat → Int32} {J : Nat → Nat → Int64} {x3 s0 s1 : Int32} {Q : Int32 → Int64 → pm_H → Prop} : pm_wp pm_code pm_meta d 317 1799 ([.ref 1, .ref 8, .ref 79, .int x3], [.int s1, .int s0], (pm_Gb L b, I, J)) Q ↔ if s0 = s1 then pm_wp pm_code pm_meta d 317 2180 ([.ref 1, .ref 8, .ref 79, .int x3], [], (pm_Gb L b, I, J)) Q else pm_wp pm_code pm_meta d 317 1802 ([.ref 1, .ref 8, .ref 79, .int x3], [], (pm_Gb L b, I, J)) Q := (pm_bk_iff pc_ch_317 1 1799 _).trans (pm_brd)
set_option maxRecDepth 40000 in
theorem lw_1804 {d L : Nat} {b : Bool} {I : Nat → Nat → Int32} {J : Nat → Nat → Int64} {x3 : Int32} {Q : Int32 → Int64 → pm_H → Prop} : pm_wp pm_code pm_meta (d + 1) 317 1804 ([.ref 1, .ref 8, .ref 79, .int x3], [], (pm_Gb L b, I, J)) Q ↔ pm_in (x3 + 1) L = true ∧ (pm_wc pm_code pm_meta d 163 [.ref 8, .int (I 1 (x3 + 1).toNatClampNeg)] (pm_Gb L b, I, J) (fun v w H => pm_wp pm_code pm_meta (d + 1) 317 1813 ([.ref 1, .ref 8, .ref 79, .int x3], [.int v], H) Q)) := (pm_bk_iff pc_ch_317 7 1804 _).trans (and_congr Iff.rfl (Iff.rfl))
set_option maxRecDepth 40000 in
theorem lx_1813 {d L nx sl : Nat} {T : Nat → Nat × Nat} {O : Nat → Nat → Nat} {I : Nat → Nat → Int32} {J : Nat → Nat → Int64} {x3 s0 : Int32} {Q : Int32 → Int64 → pm_H → Prop} : pm_wp pm_code pm_meta (d + 1) 317 1813 ([.ref 1, .ref 8, .ref 79, .int x3], [.int s0], ((pm_t (pm_t T 79 (0, 11)) 1 (1, L), O, nx, sl), I, J)) Q ↔ pm_in (x3 + 1) L = true ∧ (pm_wc pm_code pm_meta d 283 [.ref 79, .int (I 1 (x3 + 1).toNatClampNeg)] ((pm_t (pm_t T 79 (0, 11)) 1 (1, L), O, nx, sl), I, J) (fun v w H => pm_wp pm_code pm_meta (d + 1) 317 1822 ([.ref 1, .ref 8, .ref 79, .int x3], [.int v, .int s0], H) Q)) := (pm_bk_iff pc_ch_317 7 1813 _).trans (and_congr Iff.rfl (Iff.rfl))
set_option maxRecDepth 40000 in
theorem ly_1822 {d L : Nat} {b : Bool} {I : Nat → Nat → Int32} {J : Nat → Nat → Int64} {x3 s0 s1 : Int32} {Q : Int32 → Int64 → pm_H → Prop} : pm_wp pm_code pm_meta d 317 1822 ([.ref 1, .ref 8, .ref 79, .int x3], [.int s1, .int s0], (pm_Gb L b, I, J)) Q ↔ if s0 = s1 then pm_wp pm_code pm_meta d 317 2180 ([.ref 1, .ref 8, .ref 79, .int x3], [], (pm_Gb L b, I, J)) Q else pm_wp pm_code pm_meta d 317 1825 ([.ref 1, .ref 8, .ref 79, .int x3], [], (pm_Gb L b, I, J)) Q := (pm_bk_iff pc_ch_317 1 1822 _).trans (pm_brd)
set_option maxRecDepth 40000 in
theorem lw_1827 {d L : Nat} {b : Bool} {I : Nat → Nat → Int32} {J : Nat → Nat → Int64} {x3 : Int32} {Q : Int32 → Int64 → pm_H → Prop} : pm_wp pm_code pm_meta (d + 1) 317 1827 ([.ref 1, .ref 8, .ref 79, .int x3], [], (pm_Gb L b, I, J)) Q ↔ pm_in (x3 + 1) L = true ∧ (pm_in (x3 + 2) L = true ∧ (pm_in (x3 + 3) L = true ∧ (pm_wc pm_code pm_meta d 164 [.ref 8, .int (I 1 (x3 + 1).toNatClampNeg), .int (I 1 (x3 + 2).toNatClampNeg), .int (I 1 (x3 + 3).toNatClampNeg)] (pm_Gb L b, I, J) (fun v w H => pm_wp pm_code pm_meta (d + 1) 317 1846 ([.ref 1, .ref 8, .ref 79, .int x3], [.int v], H) Q)))) := (pm_bk_iff pc_ch_317 17 1827 _).trans (and_congr Iff.rfl (and_congr Iff.rfl (and_congr Iff.rfl (Iff.rfl))))
set_option maxRecDepth 40000 in
theorem lx_1846 {d L nx sl : Nat} {T : Nat → Nat × Nat} {O : Nat → Nat → Nat} {I : Nat → Nat → Int32} {J : Nat → Nat → Int64} {x3 s0 : Int32} {Q : Int32 → Int64 → pm_H → Prop} : pm_wp pm_code pm_meta (d + 1) 317 1846 ([.ref 1, .ref 8, .ref 79, .int x3], [.int s0], ((pm_t (pm_t T 79 (0, 11)) 1 (1, L), O, nx, sl), I, J)) Q ↔ pm_in (x3 + 1) L = true ∧ (pm_in (x3 + 2) L = true ∧ (pm_in (x3 + 3) L = true ∧ (pm_wc pm_code pm_meta d 285 [.ref 79, .int (I 1 (x3 + 1).toNatClampNeg), .int (I 1 (x3 + 2).toNatClampNeg), .int (I 1 (x3 + 3).toNatClampNeg)] ((pm_t (pm_t T 79 (0, 11)) 1 (1, L), O, nx, sl), I, J) (fun v w H => pm_wp pm_code pm_meta (d + 1) 317 1865 ([.ref 1, .ref 8, .ref 79, .int x3], [.int v, .int s0], H) Q)))) := (pm_bk_iff pc_ch_317 17 1846 _).trans (and_congr Iff.rfl (and_congr Iff.rfl (and_congr Iff.rfl (Iff.rfl))))
set_option maxRecDepth 40000 in
theorem ly_1865 {d L : Nat} {b : Bool} {I : Nat → Nat → Int32} {J : Nat → Nat → Int64} {x3 s0 s1 : Int32} {Q : Int32 → Int64 → pm_H → Prop} : pm_wp pm_code pm_meta d 317 1865 ([.ref 1, .ref 8, .ref 79, .int x3], [.int s1, .int s0], (pm_Gb L b, I, J)) Q ↔ if s0 = s1 then pm_wp pm_code pm_meta d 317 2180 ([.ref 1, .ref 8, .ref 79, .int x3], [], (pm_Gb L b, I, J)) Q else pm_wp pm_code pm_meta d 317 1868 ([.ref 1, .ref 8, .ref 79, .int x3], [], (pm_Gb L b, I, J)) Q := (pm_bk_iff pc_ch_317 1 1865 _).trans (pm_brd)
set_option maxRecDepth 40000 in
theorem lw_1870 {d L : Nat} {b : Bool} {I : Nat → Nat → Int32} {J : Nat → Nat → Int64} {x3 : Int32} {Q : Int32 → Int64 → pm_H → Prop} : pm_wp pm_code pm_meta (d + 1) 317 1870 ([.ref 1, .ref 8, .ref 79, .int x3], [], (pm_Gb L b, I, J)) Q ↔ pm_in (x3 + 1) L = true ∧ (pm_in (x3 + 2) L = true ∧ (pm_in (x3 + 3) L = true ∧ (pm_wc pm_code pm_meta d 165 [.ref 8, .int (I 1 (x3 + 1).toNatClampNeg), .int (I 1 (x3 + 2).toNatClampNeg), .int (I 1 (x3 + 3).toNatClampNeg)] (pm_Gb L b, I, J) (fun v w H => pm_wp pm_code pm_meta (d + 1) 317 1889 ([.ref 1, .ref 8, .ref 79, .int x3], [.int v], H) Q)))) := (pm_bk_iff pc_ch_317 17 1870 _).trans (and_congr Iff.rfl (and_congr Iff.rfl (and_congr Iff.rfl (Iff.rfl))))
set_option maxRecDepth 40000 in
theorem lx_1889 {d L nx sl : Nat} {T : Nat → Nat × Nat} {O : Nat → Nat → Nat} {I : Nat → Nat → Int32} {J : Nat → Nat → Int64} {x3 s0 : Int32} {Q : Int32 → Int64 → pm_H → Prop} : pm_wp pm_code pm_meta (d + 1) 317 1889 ([.ref 1, .ref 8, .ref 79, .int x3], [.int s0], ((pm_t (pm_t T 79 (0, 11)) 1 (1, L), O, nx, sl), I, J)) Q ↔ pm_in (x3 + 1) L = true ∧ (pm_in (x3 + 2) L = true ∧ (pm_in (x3 + 3) L = true ∧ (pm_wc pm_code pm_meta d 287 [.ref 79, .int (I 1 (x3 + 1).toNatClampNeg), .int (I 1 (x3 + 2).toNatClampNeg), .int (I 1 (x3 + 3).toNatClampNeg)] ((pm_t (pm_t T 79 (0, 11)) 1 (1, L), O, nx, sl), I, J) (fun v w H => pm_wp pm_code pm_meta (d + 1) 317 1908 ([.ref 1, .ref 8, .ref 79, .int x3], [.int v, .int s0], H) Q)))) := (pm_bk_iff pc_ch_317 17 1889 _).trans (and_congr Iff.rfl (and_congr Iff.rfl (and_congr Iff.rfl (Iff.rfl))))
set_option maxRecDepth 40000 in
theorem ly_1908 {d L : Nat} {b : Bool} {I : Nat → Nat → Int32} {J : Nat → Nat → Int64} {x3 s0 s1 : Int32} {Q : Int32 → Int64 → pm_H → Prop} : pm_wp pm_code pm_meta d 317 1908 ([.ref 1, .ref 8, .ref 79, .int x3], [.int s1, .int s0], (pm_Gb L b, I, J)) Q ↔ if s0 = s1 then pm_wp pm_code pm_meta d 317 2180 ([.ref 1, .ref 8, .ref 79, .int x3], [], (pm_Gb L b, I, J)) Q else pm_wp pm_code pm_meta d 317 1911 ([.ref 1, .ref 8, .ref 79, .int x3], [], (pm_Gb L b, I, J)) Q := (pm_bk_iff pc_ch_317 1 1908 _).trans (pm_brd)
set_option maxRecDepth 40000 in
theorem lw_1913 {d L : Nat} {b : Bool} {I : Nat → Nat → Int32} {J : Nat → Nat → Int64} {x3 : Int32} {Q : Int32 → Int64 → pm_H → Prop} : pm_wp pm_code pm_meta (d + 1) 317 1913 ([.ref 1, .ref 8, .ref 79, .int x3], [], (pm_Gb L b, I, J)) Q ↔ pm_in (x3 + 1) L = true ∧ (pm_in (x3 + 2) L = true ∧ (pm_in (x3 + 3) L = true ∧ (pm_wc pm_code pm_meta d 166 [.ref 8, .int (I 1 (x3 + 1).toNatClampNeg), .int (I 1 (x3 + 2).toNatClampNeg), .int (I 1 (x3 + 3).toNatClampNeg)] (pm_Gb L b, I, J) (fun v w H => pm_wp pm_code pm_meta (d + 1) 317 1932 ([.ref 1, .ref 8, .ref 79, .int x3], [.int v], H) Q)))) := (pm_bk_iff pc_ch_317 17 1913 _).trans (and_congr Iff.rfl (and_congr Iff.rfl (and_congr Iff.rfl (Iff.rfl))))
set_option maxRecDepth 40000 in
theorem lx_1932 {d L nx sl : Nat} {T : Nat → Nat × Nat} {O : Nat → Nat → Nat} {I : Nat → Nat → Int32} {J : Nat → Nat → Int64} {x3 s0 : Int32} {Q : Int32 → Int64 → pm_H → Prop} : pm_wp pm_code pm_meta (d + 1) 317 1932 ([.ref 1, .ref 8, .ref 79, .int x3], [.int s0], ((pm_t (pm_t T 79 (0, 11)) 1 (1, L), O, nx, sl), I, J)) Q ↔ pm_in (x3 + 1) L = true ∧ (pm_in (x3 + 2) L = true ∧ (pm_in (x3 + 3) L = true ∧ (pm_wc pm_code pm_meta d 288 [.ref 79, .int (I 1 (x3 + 1).toNatClampNeg), .int (I 1 (x3 + 2).toNatClampNeg), .int (I 1 (x3 + 3).toNatClampNeg)] ((pm_t (pm_t T 79 (0, 11)) 1 (1, L), O, nx, sl), I, J) (fun v w H => pm_wp pm_code pm_meta (d + 1) 317 1951 ([.ref 1, .ref 8, .ref 79, .int x3], [.int v, .int s0], H) Q)))) := (pm_bk_iff pc_ch_317 17 1932 _).trans (and_congr Iff.rfl (and_congr Iff.rfl (and_congr Iff.rfl (Iff.rfl))))
set_option maxRecDepth 40000 in
theorem ly_1951 {d L : Nat} {b : Bool} {I : Nat → Nat → Int32} {J : Nat → Nat → Int64} {x3 s0 s1 : Int32} {Q : Int32 → Int64 → pm_H → Prop} : pm_wp pm_code pm_meta d 317 1951 ([.ref 1, .ref 8, .ref 79, .int x3], [.int s1, .int s0], (pm_Gb L b, I, J)) Q ↔ if s0 = s1 then pm_wp pm_code pm_meta d 317 2180 ([.ref 1, .ref 8, .ref 79, .int x3], [], (pm_Gb L b, I, J)) Q else pm_wp pm_code pm_meta d 317 1954 ([.ref 1, .ref 8, .ref 79, .int x3], [], (pm_Gb L b, I, J)) Q := (pm_bk_iff pc_ch_317 1 1951 _).trans (pm_brd)
set_option maxRecDepth 40000 in
theorem lw_1956 {d L : Nat} {b : Bool} {I : Nat → Nat → Int32} {J : Nat → Nat → Int64} {x3 : Int32} {Q : Int32 → Int64 → pm_H → Prop} : pm_wp pm_code pm_meta (d + 1) 317 1956 ([.ref 1, .ref 8, .ref 79, .int x3], [], (pm_Gb L b, I, J)) Q ↔ pm_in (x3 + 1) L = true ∧ (pm_in (x3 + 2) L = true ∧ (pm_wc pm_code pm_meta d 167 [.ref 8, .int (I 1 (x3 + 1).toNatClampNeg), .int (I 1 (x3 + 2).toNatClampNeg)] (pm_Gb L b, I, J) (fun v w H => pm_wp pm_code pm_meta (d + 1) 317 1970 ([.ref 1, .ref 8, .ref 79, .int x3], [.int v], H) Q))) := (pm_bk_iff pc_ch_317 12 1956 _).trans (and_congr Iff.rfl (and_congr Iff.rfl (Iff.rfl)))
set_option maxRecDepth 40000 in
theorem lx_1970 {d L nx sl : Nat} {T : Nat → Nat × Nat} {O : Nat → Nat → Nat} {I : Nat → Nat → Int32} {J : Nat → Nat → Int64} {x3 s0 : Int32} {Q : Int32 → Int64 → pm_H → Prop} : pm_wp pm_code pm_meta (d + 1) 317 1970 ([.ref 1, .ref 8, .ref 79, .int x3], [.int s0], ((pm_t (pm_t T 79 (0, 11)) 1 (1, L), O, nx, sl), I, J)) Q ↔ pm_in (x3 + 1) L = true ∧ (pm_in (x3 + 2) L = true ∧ (pm_wc pm_code pm_meta d 289 [.ref 79, .int (I 1 (x3 + 1).toNatClampNeg), .int (I 1 (x3 + 2).toNatClampNeg)] ((pm_t (pm_t T 79 (0, 11)) 1 (1, L), O, nx, sl), I, J) (fun v w H => pm_wp pm_code pm_meta (d + 1) 317 1984 ([.ref 1, .ref 8, .ref 79, .int x3], [.int v, .int s0], H) Q))) := (pm_bk_iff pc_ch_317 12 1970 _).trans (and_congr Iff.rfl (and_congr Iff.rfl (Iff.rfl)))
set_option maxRecDepth 40000 in
theorem ly_1984 {d L : Nat} {b : Bool} {I : Nat → Nat → Int32} {J : Nat → Nat → Int64} {x3 s0 s1 : Int32} {Q : Int32 → Int64 → pm_H → Prop} : pm_wp pm_code pm_meta d 317 1984 ([.ref 1, .ref 8, .ref 79, .int x3], [.int s1, .int s0], (pm_Gb L b, I, J)) Q ↔ if s0 = s1 then pm_wp pm_code pm_meta d 317 2180 ([.ref 1, .ref 8, .ref 79, .int x3], [], (pm_Gb L b, I, J)) Q else pm_wp pm_code pm_meta d 317 1987 ([.ref 1, .ref 8, .ref 79, .int x3], [], (pm_Gb L b, I, J)) Q := (pm_bk_iff pc_ch_317 1 1984 _).trans (pm_brd)
set_option maxRecDepth 40000 in
theorem lw_1989 {d L : Nat} {b : Bool} {I : Nat → Nat → Int32} {J : Nat → Nat → Int64} {x3 : Int32} {Q : Int32 → Int64 → pm_H → Prop} : pm_wp pm_code pm_meta (d + 1) 317 1989 ([.ref 1, .ref 8, .ref 79, .int x3], [], (pm_Gb L b, I, J)) Q ↔ pm_in (x3 + 1) L = true ∧ (pm_in (x3 + 2) L = true ∧ (pm_in (x3 + 3) L = true ∧ (pm_wc pm_code pm_meta d 168 [.ref 8, .int (I 1 (x3 + 1).toNatClampNeg), .int (I 1 (x3 + 2).toNatClampNeg), .int (I 1 (x3 + 3).toNatClampNeg)] (pm_Gb L b, I, J) (fun v w H => pm_wp pm_code pm_meta (d + 1) 317 2008 ([.ref 1, .ref 8, .ref 79, .int x3], [.int v], H) Q)))) := (pm_bk_iff pc_ch_317 17 1989 _).trans (and_congr Iff.rfl (and_congr Iff.rfl (and_congr Iff.rfl (Iff.rfl))))
set_option maxRecDepth 40000 in
theorem lx_2008 {d L nx sl : Nat} {T : Nat → Nat × Nat} {O : Nat → Nat → Nat} {I : Nat → Nat → Int32} {J : Nat → Nat → Int64} {x3 s0 : Int32} {Q : Int32 → Int64 → pm_H → Prop} : pm_wp pm_code pm_meta (d + 1) 317 2008 ([.ref 1, .ref 8, .ref 79, .int x3], [.int s0], ((pm_t (pm_t T 79 (0, 11)) 1 (1, L), O, nx, sl), I, J)) Q ↔ pm_in (x3 + 1) L = true ∧ (pm_in (x3 + 2) L = true ∧ (pm_in (x3 + 3) L = true ∧ (pm_wc pm_code pm_meta d 290 [.ref 79, .int (I 1 (x3 + 1).toNatClampNeg), .int (I 1 (x3 + 2).toNatClampNeg), .int (I 1 (x3 + 3).toNatClampNeg)] ((pm_t (pm_t T 79 (0, 11)) 1 (1, L), O, nx, sl), I, J) (fun v w H => pm_wp pm_code pm_meta (d + 1) 317 2027 ([.ref 1, .ref 8, .ref 79, .int x3], [.int v, .int s0], H) Q)))) := (pm_bk_iff pc_ch_317 17 2008 _).trans (and_congr Iff.rfl (and_congr Iff.rfl (and_congr Iff.rfl (Iff.rfl))))
set_option maxRecDepth 40000 in
theorem ly_2027 {d L : Nat} {b : Bool} {I : Nat → Nat → Int32} {J : Nat → Nat → Int64} {x3 s0 s1 : Int32} {Q : Int32 → Int64 → pm_H → Prop} : pm_wp pm_code pm_meta d 317 2027 ([.ref 1, .ref 8, .ref 79, .int x3], [.int s1, .int s0], (pm_Gb L b, I, J)) Q ↔ if s0 = s1 then pm_wp pm_code pm_meta d 317 2180 ([.ref 1, .ref 8, .ref 79, .int x3], [], (pm_Gb L b, I, J)) Q else pm_wp pm_code pm_meta d 317 2030 ([.ref 1, .ref 8, .ref 79, .int x3], [], (pm_Gb L b, I, J)) Q := (pm_bk_iff pc_ch_317 1 2027 _).trans (pm_brd)
set_option maxRecDepth 40000 in
theorem lw_2032 {d L : Nat} {b : Bool} {I : Nat → Nat → Int32} {J : Nat → Nat → Int64} {x3 : Int32} {Q : Int32 → Int64 → pm_H → Prop} : pm_wp pm_code pm_meta (d + 1) 317 2032 ([.ref 1, .ref 8, .ref 79, .int x3], [], (pm_Gb L b, I, J)) Q ↔ pm_in (x3 + 1) L = true ∧ (pm_in (x3 + 2) L = true ∧ (pm_wc pm_code pm_meta d 169 [.ref 8, .int (I 1 (x3 + 1).toNatClampNeg), .int (I 1 (x3 + 2).toNatClampNeg)] (pm_Gb L b, I, J) (fun v w H => pm_wp pm_code pm_meta (d + 1) 317 2046 ([.ref 1, .ref 8, .ref 79, .int x3], [.int v], H) Q))) := (pm_bk_iff pc_ch_317 12 2032 _).trans (and_congr Iff.rfl (and_congr Iff.rfl (Iff.rfl)))
set_option maxRecDepth 40000 in
theorem lx_2046 {d L nx sl : Nat} {T : Nat → Nat × Nat} {O : Nat → Nat → Nat} {I : Nat → Nat → Int32} {J : Nat → Nat → Int64} {x3 s0 : Int32} {Q : Int32 → Int64 → pm_H → Prop} : pm_wp pm_code pm_meta (d + 1) 317 2046 ([.ref 1, .ref 8, .ref 79, .int x3], [.int s0], ((pm_t (pm_t T 79 (0, 11)) 1 (1, L), O, nx, sl), I, J)) Q ↔ pm_in (x3 + 1) L = true ∧ (pm_in (x3 + 2) L = true ∧ (pm_wc pm_code pm_meta d 292 [.ref 79, .int (I 1 (x3 + 1).toNatClampNeg), .int (I 1 (x3 + 2).toNatClampNeg)] ((pm_t (pm_t T 79 (0, 11)) 1 (1, L), O, nx, sl), I, J) (fun v w H => pm_wp pm_code pm_meta (d + 1) 317 2060 ([.ref 1, .ref 8, .ref 79, .int x3], [.int v, .int s0], H) Q))) := (pm_bk_iff pc_ch_317 12 2046 _).trans (and_congr Iff.rfl (and_congr Iff.rfl (Iff.rfl)))
set_option maxRecDepth 40000 in
theorem ly_2060 {d L : Nat} {b : Bool} {I : Nat → Nat → Int32} {J : Nat → Nat → Int64} {x3 s0 s1 : Int32} {Q : Int32 → Int64 → pm_H → Prop} : pm_wp pm_code pm_meta d 317 2060 ([.ref 1, .ref 8, .ref 79, .int x3], [.int s1, .int s0], (pm_Gb L b, I, J)) Q ↔ if s0 = s1 then pm_wp pm_code pm_meta d 317 2180 ([.ref 1, .ref 8, .ref 79, .int x3], [], (pm_Gb L b, I, J)) Q else pm_wp pm_code pm_meta d 317 2063 ([.ref 1, .ref 8, .ref 79, .int x3], [], (pm_Gb L b, I, J)) Q := (pm_bk_iff pc_ch_317 1 2060 _).trans (pm_brd)
set_option maxRecDepth 40000 in
theorem lw_2065 {d L : Nat} {b : Bool} {I : Nat → Nat → Int32} {J : Nat → Nat → Int64} {x3 : Int32} {Q : Int32 → Int64 → pm_H → Prop} : pm_wp pm_code pm_meta (d + 1) 317 2065 ([.ref 1, .ref 8, .ref 79, .int x3], [], (pm_Gb L b, I, J)) Q ↔ pm_in (x3 + 1) L = true ∧ (pm_in (x3 + 2) L = true ∧ (pm_in (x3 + 3) L = true ∧ (pm_wc pm_code pm_meta d 170 [.ref 8, .int (I 1 (x3 + 1).toNatClampNeg), .int (I 1 (x3 + 2).toNatClampNeg), .int (I 1 (x3 + 3).toNatClampNeg)] (pm_Gb L b, I, J) (fun v w H => pm_wp pm_code pm_meta (d + 1) 317 2084 ([.ref 1, .ref 8, .ref 79, .int x3], [.int v], H) Q)))) := (pm_bk_iff pc_ch_317 17 2065 _).trans (and_congr Iff.rfl (and_congr Iff.rfl (and_congr Iff.rfl (Iff.rfl))))
set_option maxRecDepth 40000 in
theorem lx_2084 {d L nx sl : Nat} {T : Nat → Nat × Nat} {O : Nat → Nat → Nat} {I : Nat → Nat → Int32} {J : Nat → Nat → Int64} {x3 s0 : Int32} {Q : Int32 → Int64 → pm_H → Prop} : pm_wp pm_code pm_meta (d + 1) 317 2084 ([.ref 1, .ref 8, .ref 79, .int x3], [.int s0], ((pm_t (pm_t T 79 (0, 11)) 1 (1, L), O, nx, sl), I, J)) Q ↔ pm_in (x3 + 1) L = true ∧ (pm_in (x3 + 2) L = true ∧ (pm_in (x3 + 3) L = true ∧ (pm_wc pm_code pm_meta d 303 [.ref 79, .int (I 1 (x3 + 1).toNatClampNeg), .int (I 1 (x3 + 2).toNatClampNeg), .int (I 1 (x3 + 3).toNatClampNeg)] ((pm_t (pm_t T 79 (0, 11)) 1 (1, L), O, nx, sl), I, J) (fun v w H => pm_wp pm_code pm_meta (d + 1) 317 2103 ([.ref 1, .ref 8, .ref 79, .int x3], [.int v, .int s0], H) Q)))) := (pm_bk_iff pc_ch_317 17 2084 _).trans (and_congr Iff.rfl (and_congr Iff.rfl (and_congr Iff.rfl (Iff.rfl))))
set_option maxRecDepth 40000 in
theorem ly_2103 {d L : Nat} {b : Bool} {I : Nat → Nat → Int32} {J : Nat → Nat → Int64} {x3 s0 s1 : Int32} {Q : Int32 → Int64 → pm_H → Prop} : pm_wp pm_code pm_meta d 317 2103 ([.ref 1, .ref 8, .ref 79, .int x3], [.int s1, .int s0], (pm_Gb L b, I, J)) Q ↔ if s0 = s1 then pm_wp pm_code pm_meta d 317 2180 ([.ref 1, .ref 8, .ref 79, .int x3], [], (pm_Gb L b, I, J)) Q else pm_wp pm_code pm_meta d 317 2106 ([.ref 1, .ref 8, .ref 79, .int x3], [], (pm_Gb L b, I, J)) Q := (pm_bk_iff pc_ch_317 1 2103 _).trans (pm_brd)
set_option maxRecDepth 40000 in
theorem lw_2108 {d L : Nat} {b : Bool} {I : Nat → Nat → Int32} {J : Nat → Nat → Int64} {x3 : Int32} {Q : Int32 → Int64 → pm_H → Prop} : pm_wp pm_code pm_meta (d + 1) 317 2108 ([.ref 1, .ref 8, .ref 79, .int x3], [], (pm_Gb L b, I, J)) Q ↔ pm_in (x3 + 1) L = true ∧ (pm_wc pm_code pm_meta d 171 [.ref 8, .int (I 1 (x3 + 1).toNatClampNeg)] (pm_Gb L b, I, J) (fun v w H => pm_wp pm_code pm_meta (d + 1) 317 2117 ([.ref 1, .ref 8, .ref 79, .int x3], [.int v], H) Q)) := (pm_bk_iff pc_ch_317 7 2108 _).trans (and_congr Iff.rfl (Iff.rfl))
set_option maxRecDepth 40000 in
theorem lx_2117 {d L nx sl : Nat} {T : Nat → Nat × Nat} {O : Nat → Nat → Nat} {I : Nat → Nat → Int32} {J : Nat → Nat → Int64} {x3 s0 : Int32} {Q : Int32 → Int64 → pm_H → Prop} : pm_wp pm_code pm_meta (d + 1) 317 2117 ([.ref 1, .ref 8, .ref 79, .int x3], [.int s0], ((pm_t (pm_t T 79 (0, 11)) 1 (1, L), O, nx, sl), I, J)) Q ↔ pm_in (x3 + 1) L = true ∧ (pm_wc pm_code pm_meta d 304 [.ref 79, .int (I 1 (x3 + 1).toNatClampNeg)] ((pm_t (pm_t T 79 (0, 11)) 1 (1, L), O, nx, sl), I, J) (fun v w H => pm_wp pm_code pm_meta (d + 1) 317 2126 ([.ref 1, .ref 8, .ref 79, .int x3], [.int v, .int s0], H) Q)) := (pm_bk_iff pc_ch_317 7 2117 _).trans (and_congr Iff.rfl (Iff.rfl))
set_option maxRecDepth 40000 in
theorem ly_2126 {d L : Nat} {b : Bool} {I : Nat → Nat → Int32} {J : Nat → Nat → Int64} {x3 s0 s1 : Int32} {Q : Int32 → Int64 → pm_H → Prop} : pm_wp pm_code pm_meta d 317 2126 ([.ref 1, .ref 8, .ref 79, .int x3], [.int s1, .int s0], (pm_Gb L b, I, J)) Q ↔ if s0 = s1 then pm_wp pm_code pm_meta d 317 2180 ([.ref 1, .ref 8, .ref 79, .int x3], [], (pm_Gb L b, I, J)) Q else pm_wp pm_code pm_meta d 317 2129 ([.ref 1, .ref 8, .ref 79, .int x3], [], (pm_Gb L b, I, J)) Q := (pm_bk_iff pc_ch_317 1 2126 _).trans (pm_brd)
set_option maxRecDepth 40000 in
theorem lw_2131 {d L : Nat} {b : Bool} {I : Nat → Nat → Int32} {J : Nat → Nat → Int64} {x3 : Int32} {Q : Int32 → Int64 → pm_H → Prop} : pm_wp pm_code pm_meta (d + 1) 317 2131 ([.ref 1, .ref 8, .ref 79, .int x3], [], (pm_Gb L b, I, J)) Q ↔ pm_in (x3 + 1) L = true ∧ (pm_wc pm_code pm_meta d 172 [.ref 8, .int (I 1 (x3 + 1).toNatClampNeg)] (pm_Gb L b, I, J) (fun v w H => pm_wp pm_code pm_meta (d + 1) 317 2140 ([.ref 1, .ref 8, .ref 79, .int x3], [.int v], H) Q)) := (pm_bk_iff pc_ch_317 7 2131 _).trans (and_congr Iff.rfl (Iff.rfl))
set_option maxRecDepth 40000 in
theorem lx_2140 {d L nx sl : Nat} {T : Nat → Nat × Nat} {O : Nat → Nat → Nat} {I : Nat → Nat → Int32} {J : Nat → Nat → Int64} {x3 s0 : Int32} {Q : Int32 → Int64 → pm_H → Prop} : pm_wp pm_code pm_meta (d + 1) 317 2140 ([.ref 1, .ref 8, .ref 79, .int x3], [.int s0], ((pm_t (pm_t T 79 (0, 11)) 1 (1, L), O, nx, sl), I, J)) Q ↔ pm_in (x3 + 1) L = true ∧ (pm_wc pm_code pm_meta d 305 [.ref 79, .int (I 1 (x3 + 1).toNatClampNeg)] ((pm_t (pm_t T 79 (0, 11)) 1 (1, L), O, nx, sl), I, J) (fun v w H => pm_wp pm_code pm_meta (d + 1) 317 2149 ([.ref 1, .ref 8, .ref 79, .int x3], [.int v, .int s0], H) Q)) := (pm_bk_iff pc_ch_317 7 2140 _).trans (and_congr Iff.rfl (Iff.rfl))
set_option maxRecDepth 40000 in
theorem ly_2149 {d L : Nat} {b : Bool} {I : Nat → Nat → Int32} {J : Nat → Nat → Int64} {x3 s0 s1 : Int32} {Q : Int32 → Int64 → pm_H → Prop} : pm_wp pm_code pm_meta d 317 2149 ([.ref 1, .ref 8, .ref 79, .int x3], [.int s1, .int s0], (pm_Gb L b, I, J)) Q ↔ if s0 = s1 then pm_wp pm_code pm_meta d 317 2180 ([.ref 1, .ref 8, .ref 79, .int x3], [], (pm_Gb L b, I, J)) Q else pm_wp pm_code pm_meta d 317 2152 ([.ref 1, .ref 8, .ref 79, .int x3], [], (pm_Gb L b, I, J)) Q := (pm_bk_iff pc_ch_317 1 2149 _).trans (pm_brd)
set_option maxRecDepth 40000 in
theorem lw_2154 {d L : Nat} {b : Bool} {I : Nat → Nat → Int32} {J : Nat → Nat → Int64} {x3 : Int32} {Q : Int32 → Int64 → pm_H → Prop} : pm_wp pm_code pm_meta (d + 1) 317 2154 ([.ref 1, .ref 8, .ref 79, .int x3], [], (pm_Gb L b, I, J)) Q ↔ pm_wc pm_code pm_meta d 173 [.ref 8] (pm_Gb L b, I, J) (fun v w H => pm_wp pm_code pm_meta (d + 1) 317 2158 ([.ref 1, .ref 8, .ref 79, .int x3], [.int v], H) Q) := (pm_bk_iff pc_ch_317 2 2154 _).trans (Iff.rfl)
set_option maxRecDepth 40000 in
theorem lx_2158 {d L nx sl : Nat} {T : Nat → Nat × Nat} {O : Nat → Nat → Nat} {I : Nat → Nat → Int32} {J : Nat → Nat → Int64} {x3 s0 : Int32} {Q : Int32 → Int64 → pm_H → Prop} : pm_wp pm_code pm_meta (d + 1) 317 2158 ([.ref 1, .ref 8, .ref 79, .int x3], [.int s0], ((pm_t (pm_t T 79 (0, 11)) 1 (1, L), O, nx, sl), I, J)) Q ↔ pm_wc pm_code pm_meta d 180 [.ref 79] ((pm_t (pm_t T 79 (0, 11)) 1 (1, L), O, nx, sl), I, J) (fun v w H => pm_wp pm_code pm_meta (d + 1) 317 2162 ([.ref 1, .ref 8, .ref 79, .int x3], [.int v, .int s0], H) Q) := (pm_bk_iff pc_ch_317 2 2158 _).trans (Iff.rfl)
set_option maxRecDepth 40000 in
theorem ly_2162 {d L : Nat} {b : Bool} {I : Nat → Nat → Int32} {J : Nat → Nat → Int64} {x3 s0 s1 : Int32} {Q : Int32 → Int64 → pm_H → Prop} : pm_wp pm_code pm_meta d 317 2162 ([.ref 1, .ref 8, .ref 79, .int x3], [.int s1, .int s0], (pm_Gb L b, I, J)) Q ↔ if s0 = s1 then pm_wp pm_code pm_meta d 317 2180 ([.ref 1, .ref 8, .ref 79, .int x3], [], (pm_Gb L b, I, J)) Q else pm_wp pm_code pm_meta d 317 2165 ([.ref 1, .ref 8, .ref 79, .int x3], [], (pm_Gb L b, I, J)) Q := (pm_bk_iff pc_ch_317 1 2162 _).trans (pm_brd)
set_option maxRecDepth 40000 in
theorem lw_2167 {d L : Nat} {b : Bool} {I : Nat → Nat → Int32} {J : Nat → Nat → Int64} {x3 : Int32} {Q : Int32 → Int64 → pm_H → Prop} : pm_wp pm_code pm_meta (d + 1) 317 2167 ([.ref 1, .ref 8, .ref 79, .int x3], [], (pm_Gb L b, I, J)) Q ↔ pm_wc pm_code pm_meta d 174 [.ref 8] (pm_Gb L b, I, J) (fun v w H => pm_wp pm_code pm_meta (d + 1) 317 2171 ([.ref 1, .ref 8, .ref 79, .int x3], [.int v], H) Q) := (pm_bk_iff pc_ch_317 2 2167 _).trans (Iff.rfl)
set_option maxRecDepth 40000 in
theorem lx_2171 {d L nx sl : Nat} {T : Nat → Nat × Nat} {O : Nat → Nat → Nat} {I : Nat → Nat → Int32} {J : Nat → Nat → Int64} {x3 s0 : Int32} {Q : Int32 → Int64 → pm_H → Prop} : pm_wp pm_code pm_meta (d + 1) 317 2171 ([.ref 1, .ref 8, .ref 79, .int x3], [.int s0], ((pm_t (pm_t T 79 (0, 11)) 1 (1, L), O, nx, sl), I, J)) Q ↔ pm_wc pm_code pm_meta d 181 [.ref 79] ((pm_t (pm_t T 79 (0, 11)) 1 (1, L), O, nx, sl), I, J) (fun v w H => pm_wp pm_code pm_meta (d + 1) 317 2175 ([.ref 1, .ref 8, .ref 79, .int x3], [.int v, .int s0], H) Q) := (pm_bk_iff pc_ch_317 2 2171 _).trans (Iff.rfl)
set_option maxRecDepth 40000 in
theorem ly_2175 {d L : Nat} {b : Bool} {I : Nat → Nat → Int32} {J : Nat → Nat → Int64} {x3 s0 s1 : Int32} {Q : Int32 → Int64 → pm_H → Prop} : pm_wp pm_code pm_meta d 317 2175 ([.ref 1, .ref 8, .ref 79, .int x3], [.int s1, .int s0], (pm_Gb L b, I, J)) Q ↔ if s0 = s1 then pm_wp pm_code pm_meta d 317 2180 ([.ref 1, .ref 8, .ref 79, .int x3], [], (pm_Gb L b, I, J)) Q else pm_wp pm_code pm_meta d 317 2178 ([.ref 1, .ref 8, .ref 79, .int x3], [], (pm_Gb L b, I, J)) Q := (pm_bk_iff pc_ch_317 1 2175 _).trans (pm_brd)
set_option maxRecDepth 40000 in
theorem lw_18 {d L : Nat} {b : Bool} {I : Nat → Nat → Int32} {J : Nat → Nat → Int64} {x3 : Int32} {Q : Int32 → Int64 → pm_H → Prop} : pm_wp pm_code pm_meta d 317 18 ([.ref 1, .ref 8, .ref 79, .int x3], [], (pm_Gb L b, I, J)) Q ↔ if ((Int32.ofNat L) - 9) < x3 then pm_wp pm_code pm_meta d 317 2186 ([.ref 1, .ref 8, .ref 79, .int x3], [], (pm_Gb L b, I, J)) Q else pm_wp pm_code pm_meta d 317 27 ([.ref 1, .ref 8, .ref 79, .int x3], [], (pm_Gb L b, I, J)) Q := (pm_bk_iff pc_ch_317 6 18 _).trans (pm_brd)
set_option maxRecDepth 40000 in
theorem lw_27 {d L : Nat} {b : Bool} {I : Nat → Nat → Int32} {J : Nat → Nat → Int64} {x3 : Int32} {Q : Int32 → Int64 → pm_H → Prop} : pm_wp pm_code pm_meta d 317 27 ([.ref 1, .ref 8, .ref 79, .int x3], [], (pm_Gb L b, I, J)) Q ↔ pm_in x3 L = true ∧ (if ((I 1 x3.toNatClampNeg) &&& 63) = 0 then pm_wp pm_code pm_meta d 317 280 ([.ref 1, .ref 8, .ref 79, .int x3], [], (pm_Gb L b, I, J)) Q else if ((I 1 x3.toNatClampNeg) &&& 63) = 1 then pm_wp pm_code pm_meta d 317 303 ([.ref 1, .ref 8, .ref 79, .int x3], [], (pm_Gb L b, I, J)) Q else if ((I 1 x3.toNatClampNeg) &&& 63) = 2 then pm_wp pm_code pm_meta d 317 346 ([.ref 1, .ref 8, .ref 79, .int x3], [], (pm_Gb L b, I, J)) Q else if ((I 1 x3.toNatClampNeg) &&& 63) = 3 then pm_wp pm_code pm_meta d 317 369 ([.ref 1, .ref 8, .ref 79, .int x3], [], (pm_Gb L b, I, J)) Q else if ((I 1 x3.toNatClampNeg) &&& 63) = 4 then pm_wp pm_code pm_meta d 317 402 ([.ref 1, .ref 8, .ref 79, .int x3], [], (pm_Gb L b, I, J)) Q else if ((I 1 x3.toNatClampNeg) &&& 63) = 5 then pm_wp pm_code pm_meta d 317 455 ([.ref 1, .ref 8, .ref 79, .int x3], [], (pm_Gb L b, I, J)) Q else if ((I 1 x3.toNatClampNeg) &&& 63) = 6 then pm_wp pm_code pm_meta d 317 478 ([.ref 1, .ref 8, .ref 79, .int x3], [], (pm_Gb L b, I, J)) Q else if ((I 1 x3.toNatClampNeg) &&& 63) = 7 then pm_wp pm_code pm_meta d 317 511 ([.ref 1, .ref 8, .ref 79, .int x3], [], (pm_Gb L b, I, J)) Q else if ((I 1 x3.toNatClampNeg) &&& 63) = 8 then pm_wp pm_code pm_meta d 317 554 ([.ref 1, .ref 8, .ref 79, .int x3], [], (pm_Gb L b, I, J)) Q else if ((I 1 x3.toNatClampNeg) &&& 63) = 9 then pm_wp pm_code pm_meta d 317 587 ([.ref 1, .ref 8, .ref 79, .int x3], [], (pm_Gb L b, I, J)) Q else if ((I 1 x3.toNatClampNeg) &&& 63) = 10 then pm_wp pm_code pm_meta d 317 610 ([.ref 1, .ref 8, .ref 79, .int x3], [], (pm_Gb L b, I, J)) Q else if ((I 1 x3.toNatClampNeg) &&& 63) = 11 then pm_wp pm_code pm_meta d 317 643 ([.ref 1, .ref 8, .ref 79, .int x3], [], (pm_Gb L b, I, J)) Q else if ((I 1 x3.toNatClampNeg) &&& 63) = 12 then pm_wp pm_code pm_meta d 317 666 ([.ref 1, .ref 8, .ref 79, .int x3], [], (pm_Gb L b, I, J)) Q else if ((I 1 x3.toNatClampNeg) &&& 63) = 13 then pm_wp pm_code pm_meta d 317 765 ([.ref 1, .ref 8, .ref 79, .int x3], [], (pm_Gb L b, I, J)) Q else if ((I 1 x3.toNatClampNeg) &&& 63) = 14 then pm_wp pm_code pm_meta d 317 798 ([.ref 1, .ref 8, .ref 79, .int x3], [], (pm_Gb L b, I, J)) Q else if ((I 1 x3.toNatClampNeg) &&& 63) = 15 then pm_wp pm_code pm_meta d 317 821 ([.ref 1, .ref 8, .ref 79, .int x3], [], (pm_Gb L b, I, J)) Q else if ((I 1 x3.toNatClampNeg) &&& 63) = 16 then pm_wp pm_code pm_meta d 317 844 ([.ref 1, .ref 8, .ref 79, .int x3], [], (pm_Gb L b, I, J)) Q else if ((I 1 x3.toNatClampNeg) &&& 63) = 17 then pm_wp pm_code pm_meta d 317 907 ([.ref 1, .ref 8, .ref 79, .int x3], [], (pm_Gb L b, I, J)) Q else if ((I 1 x3.toNatClampNeg) &&& 63) = 18 then pm_wp pm_code pm_meta d 317 930 ([.ref 1, .ref 8, .ref 79, .int x3], [], (pm_Gb L b, I, J)) Q else if ((I 1 x3.toNatClampNeg) &&& 63) = 19 then pm_wp pm_code pm_meta d 317 953 ([.ref 1, .ref 8, .ref 79, .int x3], [], (pm_Gb L b, I, J)) Q else if ((I 1 x3.toNatClampNeg) &&& 63) = 20 then pm_wp pm_code pm_meta d 317 986 ([.ref 1, .ref 8, .ref 79, .int x3], [], (pm_Gb L b, I, J)) Q else if ((I 1 x3.toNatClampNeg) &&& 63) = 21 then pm_wp pm_code pm_meta d 317 1009 ([.ref 1, .ref 8, .ref 79, .int x3], [], (pm_Gb L b, I, J)) Q else if ((I 1 x3.toNatClampNeg) &&& 63) = 22 then pm_wp pm_code pm_meta d 317 1032 ([.ref 1, .ref 8, .ref 79, .int x3], [], (pm_Gb L b, I, J)) Q else if ((I 1 x3.toNatClampNeg) &&& 63) = 23 then pm_wp pm_code pm_meta d 317 1055 ([.ref 1, .ref 8, .ref 79, .int x3], [], (pm_Gb L b, I, J)) Q else if ((I 1 x3.toNatClampNeg) &&& 63) = 24 then pm_wp pm_code pm_meta d 317 1078 ([.ref 1, .ref 8, .ref 79, .int x3], [], (pm_Gb L b, I, J)) Q else if ((I 1 x3.toNatClampNeg) &&& 63) = 25 then pm_wp pm_code pm_meta d 317 1111 ([.ref 1, .ref 8, .ref 79, .int x3], [], (pm_Gb L b, I, J)) Q else if ((I 1 x3.toNatClampNeg) &&& 63) = 26 then pm_wp pm_code pm_meta d 317 1144 ([.ref 1, .ref 8, .ref 79, .int x3], [], (pm_Gb L b, I, J)) Q else if ((I 1 x3.toNatClampNeg) &&& 63) = 27 then pm_wp pm_code pm_meta d 317 1177 ([.ref 1, .ref 8, .ref 79, .int x3], [], (pm_Gb L b, I, J)) Q else if ((I 1 x3.toNatClampNeg) &&& 63) = 28 then pm_wp pm_code pm_meta d 317 1210 ([.ref 1, .ref 8, .ref 79, .int x3], [], (pm_Gb L b, I, J)) Q else if ((I 1 x3.toNatClampNeg) &&& 63) = 29 then pm_wp pm_code pm_meta d 317 1243 ([.ref 1, .ref 8, .ref 79, .int x3], [], (pm_Gb L b, I, J)) Q else if ((I 1 x3.toNatClampNeg) &&& 63) = 30 then pm_wp pm_code pm_meta d 317 1286 ([.ref 1, .ref 8, .ref 79, .int x3], [], (pm_Gb L b, I, J)) Q else if ((I 1 x3.toNatClampNeg) &&& 63) = 31 then pm_wp pm_code pm_meta d 317 1309 ([.ref 1, .ref 8, .ref 79, .int x3], [], (pm_Gb L b, I, J)) Q else if ((I 1 x3.toNatClampNeg) &&& 63) = 32 then pm_wp pm_code pm_meta d 317 1342 ([.ref 1, .ref 8, .ref 79, .int x3], [], (pm_Gb L b, I, J)) Q else if ((I 1 x3.toNatClampNeg) &&& 63) = 33 then pm_wp pm_code pm_meta d 317 1375 ([.ref 1, .ref 8, .ref 79, .int x3], [], (pm_Gb L b, I, J)) Q else if ((I 1 x3.toNatClampNeg) &&& 63) = 34 then pm_wp pm_code pm_meta d 317 1418 ([.ref 1, .ref 8, .ref 79, .int x3], [], (pm_Gb L b, I, J)) Q else if ((I 1 x3.toNatClampNeg) &&& 63) = 35 then pm_wp pm_code pm_meta d 317 1451 ([.ref 1, .ref 8, .ref 79, .int x3], [], (pm_Gb L b, I, J)) Q else if ((I 1 x3.toNatClampNeg) &&& 63) = 36 then pm_wp pm_code pm_meta d 317 1494 ([.ref 1, .ref 8, .ref 79, .int x3], [], (pm_Gb L b, I, J)) Q else if ((I 1 x3.toNatClampNeg) &&& 63) = 37 then pm_wp pm_code pm_meta d 317 1507 ([.ref 1, .ref 8, .ref 79, .int x3], [], (pm_Gb L b, I, J)) Q else if ((I 1 x3.toNatClampNeg) &&& 63) = 38 then pm_wp pm_code pm_meta d 317 1520 ([.ref 1, .ref 8, .ref 79, .int x3], [], (pm_Gb L b, I, J)) Q else if ((I 1 x3.toNatClampNeg) &&& 63) = 39 then pm_wp pm_code pm_meta d 317 1543 ([.ref 1, .ref 8, .ref 79, .int x3], [], (pm_Gb L b, I, J)) Q else if ((I 1 x3.toNatClampNeg) &&& 63) = 40 then pm_wp pm_code pm_meta d 317 1566 ([.ref 1, .ref 8, .ref 79, .int x3], [], (pm_Gb L b, I, J)) Q else if ((I 1 x3.toNatClampNeg) &&& 63) = 41 then pm_wp pm_code pm_meta d 317 1579 ([.ref 1, .ref 8, .ref 79, .int x3], [], (pm_Gb L b, I, J)) Q else if ((I 1 x3.toNatClampNeg) &&& 63) = 42 then pm_wp pm_code pm_meta d 317 1612 ([.ref 1, .ref 8, .ref 79, .int x3], [], (pm_Gb L b, I, J)) Q else if ((I 1 x3.toNatClampNeg) &&& 63) = 43 then pm_wp pm_code pm_meta d 317 1675 ([.ref 1, .ref 8, .ref 79, .int x3], [], (pm_Gb L b, I, J)) Q else if ((I 1 x3.toNatClampNeg) &&& 63) = 44 then pm_wp pm_code pm_meta d 317 1718 ([.ref 1, .ref 8, .ref 79, .int x3], [], (pm_Gb L b, I, J)) Q else if ((I 1 x3.toNatClampNeg) &&& 63) = 45 then pm_wp pm_code pm_meta d 317 1751 ([.ref 1, .ref 8, .ref 79, .int x3], [], (pm_Gb L b, I, J)) Q else if ((I 1 x3.toNatClampNeg) &&& 63) = 46 then pm_wp pm_code pm_meta d 317 1804 ([.ref 1, .ref 8, .ref 79, .int x3], [], (pm_Gb L b, I, J)) Q else if ((I 1 x3.toNatClampNeg) &&& 63) = 47 then pm_wp pm_code pm_meta d 317 1827 ([.ref 1, .ref 8, .ref 79, .int x3], [], (pm_Gb L b, I, J)) Q else if ((I 1 x3.toNatClampNeg) &&& 63) = 48 then pm_wp pm_code pm_meta d 317 1870 ([.ref 1, .ref 8, .ref 79, .int x3], [], (pm_Gb L b, I, J)) Q else if ((I 1 x3.toNatClampNeg) &&& 63) = 49 then pm_wp pm_code pm_meta d 317 1913 ([.ref 1, .ref 8, .ref 79, .int x3], [], (pm_Gb L b, I, J)) Q else if ((I 1 x3.toNatClampNeg) &&& 63) = 50 then pm_wp pm_code pm_meta d 317 1956 ([.ref 1, .ref 8, .ref 79, .int x3], [], (pm_Gb L b, I, J)) Q else if ((I 1 x3.toNatClampNeg) &&& 63) = 51 then pm_wp pm_code pm_meta d 317 1989 ([.ref 1, .ref 8, .ref 79, .int x3], [], (pm_Gb L b, I, J)) Q else if ((I 1 x3.toNatClampNeg) &&& 63) = 52 then pm_wp pm_code pm_meta d 317 2032 ([.ref 1, .ref 8, .ref 79, .int x3], [], (pm_Gb L b, I, J)) Q else if ((I 1 x3.toNatClampNeg) &&& 63) = 53 then pm_wp pm_code pm_meta d 317 2065 ([.ref 1, .ref 8, .ref 79, .int x3], [], (pm_Gb L b, I, J)) Q else if ((I 1 x3.toNatClampNeg) &&& 63) = 54 then pm_wp pm_code pm_meta d 317 2108 ([.ref 1, .ref 8, .ref 79, .int x3], [], (pm_Gb L b, I, J)) Q else if ((I 1 x3.toNatClampNeg) &&& 63) = 55 then pm_wp pm_code pm_meta d 317 2131 ([.ref 1, .ref 8, .ref 79, .int x3], [], (pm_Gb L b, I, J)) Q else if ((I 1 x3.toNatClampNeg) &&& 63) = 56 then pm_wp pm_code pm_meta d 317 2154 ([.ref 1, .ref 8, .ref 79, .int x3], [], (pm_Gb L b, I, J)) Q else if ((I 1 x3.toNatClampNeg) &&& 63) = 57 then pm_wp pm_code pm_meta d 317 2167 ([.ref 1, .ref 8, .ref 79, .int x3], [], (pm_Gb L b, I, J)) Q else pm_wp pm_code pm_meta d 317 2180 ([.ref 1, .ref 8, .ref 79, .int x3], [], (pm_Gb L b, I, J)) Q) := (pm_bk_iff pc_ch_317 6 27 _).trans (and_congr Iff.rfl ((pm_swi_iff _).trans Iff.rfl))
set_option maxRecDepth 40000 in
theorem lw_2180 {d L : Nat} {b : Bool} {I : Nat → Nat → Int32} {J : Nat → Nat → Int64} {x3 : Int32} {Q : Int32 → Int64 → pm_H → Prop} : pm_wp pm_code pm_meta d 317 2180 ([.ref 1, .ref 8, .ref 79, .int x3], [], (pm_Gb L b, I, J)) Q ↔ pm_wp pm_code pm_meta d 317 18 ([.ref 1, .ref 8, .ref 79, .int (x3 + 9)], [], (pm_Gb L b, I, J)) Q := (pm_bk_iff pc_ch_317 2 2180 _).trans (Iff.rfl)
set_option maxRecDepth 40000 in
theorem lw_2186 {d L : Nat} {b : Bool} {I : Nat → Nat → Int32} {J : Nat → Nat → Int64} {x3 : Int32} {Q : Int32 → Int64 → pm_H → Prop} : pm_wp pm_code pm_meta d 317 2186 ([.ref 1, .ref 8, .ref 79, .int x3], [], (pm_Gb L b, I, J)) Q ↔ Q 1 0 (pm_Gb L b, I, J) := (pm_bk_iff pc_ch_317 2 2186 _).trans (pm_tt)
theorem pm_t_id {T : Nat → Nat × Nat} {a : Nat} {v : Nat × Nat} (h : T a = v) : pm_t T a v = T := by
  funext i; unfold pm_t
  by_cases c : i = a
  · rw [if_pos c, c, h]
  · rw [if_neg c]
theorem Gb_nx {L : Nat} {b : Bool} {I : Nat → Nat → Int32} {J : Nat → Nat → Int64} : 80 ≤ ((pm_Gb L b, I, J) : pm_H).1.2.2.1 := by
  cases b
  · exact (by decide : 80 ≤ 158)
  · exact (by decide : 80 ≤ 185)
theorem lw_in {L p k : Nat} (hL : L ≤ 576) (h : p + 9 ≤ L) (hk : k < 9) : pm_in (Int32.ofNat p + Int32.ofNat k) L = true := by
  rw [hb_add _ _ (by omega) (by omega)]
  have g := on_n (a := p + k) (by omega)
  exact pi_in g.1 (by rw [g.2.2]; omega)
theorem lc_0 {d L p : Nat} {b : Bool} {I : Nat → Nat → Int32} {J : Nat → Nat → Int64} {X : Nat → Int32} {Q : Int32 → Int64 → pm_H → Prop} (hI : pm_inv X b I J) (hL : L ≤ 576) (hp : p + 9 ≤ L) (hQ : ∀ (b' : Bool) (I' : Nat → Nat → Int32) (J' : Nat → Nat → Int64), pm_inv X b' I' J' → pm_wp pm_code pm_meta (d + 42) 317 2180 ([.ref 1, .ref 8, .ref 79, .int (Int32.ofNat p)], [], (pm_Gb L b', I', J')) Q) :
    pm_wp pm_code pm_meta (d + 42) 317 280 ([.ref 1, .ref 8, .ref 79, .int (Int32.ofNat p)], [], (pm_Gb L b, I, J)) Q := by
  have h1 : I 1 = X := hI.2.2.2.2.2.2.2.2.2.1
  rw [lw_280]
  refine ⟨lw_in hL hp (by decide), ?_⟩
  rw [h1]
  refine wc_kT (po_days (d := d + 21) hI) Gb_nx (fun v w H' hk hr => ?_)
  obtain ⟨⟨T, O, nx, sl⟩, I', J'⟩ := H'
  obtain ⟨k1, k2, k3, k4⟩ := hk
  have e79 : T 79 = (0, 11) := k1
  have e1 : T 1 = (1, L) := k2
  have eT : pm_t (pm_t T 79 (0, 11)) 1 (1, L) = T := by rw [pm_t_id e79, pm_t_id e1]
  have eI : I' 1 = X := by funext j; exact (k3 j).trans (by show I 1 j = X j; rw [h1])
  rw [← eT] at hr ⊢
  rw [lx_289]
  refine ⟨lw_in hL hp (by decide), ?_⟩
  rw [eI]
  obtain ⟨n, v2, w2, H2, g1, g2, I2, J2, g3, g4⟩ := hr
  refine ⟨n, v2, w2, H2, g1, ?_⟩
  rw [g3, g2]
  show pm_wp _ _ _ _ _ _ _
  rw [ly_298, if_pos rfl]
  exact hQ b I2 J2 g4
theorem lc_1 {d L p : Nat} {b : Bool} {I : Nat → Nat → Int32} {J : Nat → Nat → Int64} {X : Nat → Int32} {Q : Int32 → Int64 → pm_H → Prop} (hI : pm_inv X b I J) (hL : L ≤ 576) (hp : p + 9 ≤ L) (hQ : ∀ (b' : Bool) (I' : Nat → Nat → Int32) (J' : Nat → Nat → Int64), pm_inv X b' I' J' → pm_wp pm_code pm_meta (d + 42) 317 2180 ([.ref 1, .ref 8, .ref 79, .int (Int32.ofNat p)], [], (pm_Gb L b', I', J')) Q) :
    pm_wp pm_code pm_meta (d + 42) 317 303 ([.ref 1, .ref 8, .ref 79, .int (Int32.ofNat p)], [], (pm_Gb L b, I, J)) Q := by
  have h1 : I 1 = X := hI.2.2.2.2.2.2.2.2.2.1
  rw [lw_303]
  refine ⟨lw_in hL hp (by decide), lw_in hL hp (by decide), lw_in hL hp (by decide), ?_⟩
  rw [h1]
  refine wc_kT (po_road (d := d + 21) hI) Gb_nx (fun v w H' hk hr => ?_)
  obtain ⟨⟨T, O, nx, sl⟩, I', J'⟩ := H'
  obtain ⟨k1, k2, k3, k4⟩ := hk
  have e79 : T 79 = (0, 11) := k1
  have e1 : T 1 = (1, L) := k2
  have eT : pm_t (pm_t T 79 (0, 11)) 1 (1, L) = T := by rw [pm_t_id e79, pm_t_id e1]
  have eI : I' 1 = X := by funext j; exact (k3 j).trans (by show I 1 j = X j; rw [h1])
  rw [← eT] at hr ⊢
  rw [lx_322]
  refine ⟨lw_in hL hp (by decide), lw_in hL hp (by decide), lw_in hL hp (by decide), ?_⟩
  rw [eI]
  obtain ⟨n, v2, w2, H2, g1, g2, I2, J2, g3, g4⟩ := hr
  refine ⟨n, v2, w2, H2, g1, ?_⟩
  rw [g3, g2]
  show pm_wp _ _ _ _ _ _ _
  rw [ly_341, if_pos rfl]
  exact hQ b I2 J2 g4
theorem lc_2 {d L p : Nat} {b : Bool} {I : Nat → Nat → Int32} {J : Nat → Nat → Int64} {X : Nat → Int32} {Q : Int32 → Int64 → pm_H → Prop} (hI : pm_inv X b I J) (hL : L ≤ 576) (hp : p + 9 ≤ L) (hQ : ∀ (b' : Bool) (I' : Nat → Nat → Int32) (J' : Nat → Nat → Int64), pm_inv X b' I' J' → pm_wp pm_code pm_meta (d + 42) 317 2180 ([.ref 1, .ref 8, .ref 79, .int (Int32.ofNat p)], [], (pm_Gb L b', I', J')) Q) :
    pm_wp pm_code pm_meta (d + 42) 317 346 ([.ref 1, .ref 8, .ref 79, .int (Int32.ofNat p)], [], (pm_Gb L b, I, J)) Q := by
  have h1 : I 1 = X := hI.2.2.2.2.2.2.2.2.2.1
  rw [lw_346]
  refine ⟨lw_in hL hp (by decide), ?_⟩
  rw [h1]
  refine wc_kT (po_person (d := d + 21) hI) Gb_nx (fun v w H' hk hr => ?_)
  obtain ⟨⟨T, O, nx, sl⟩, I', J'⟩ := H'
  obtain ⟨k1, k2, k3, k4⟩ := hk
  have e79 : T 79 = (0, 11) := k1
  have e1 : T 1 = (1, L) := k2
  have eT : pm_t (pm_t T 79 (0, 11)) 1 (1, L) = T := by rw [pm_t_id e79, pm_t_id e1]
  have eI : I' 1 = X := by funext j; exact (k3 j).trans (by show I 1 j = X j; rw [h1])
  rw [← eT] at hr ⊢
  rw [lx_355]
  refine ⟨lw_in hL hp (by decide), ?_⟩
  rw [eI]
  obtain ⟨n, v2, w2, H2, g1, g2, I2, J2, g3, g4⟩ := hr
  refine ⟨n, v2, w2, H2, g1, ?_⟩
  rw [g3, g2]
  show pm_wp _ _ _ _ _ _ _
  rw [ly_364, if_pos rfl]
  exact hQ b I2 J2 g4
theorem lc_3 {d L p : Nat} {b : Bool} {I : Nat → Nat → Int32} {J : Nat → Nat → Int64} {X : Nat → Int32} {Q : Int32 → Int64 → pm_H → Prop} (hI : pm_inv X b I J) (hL : L ≤ 576) (hp : p + 9 ≤ L) (hQ : ∀ (b' : Bool) (I' : Nat → Nat → Int32) (J' : Nat → Nat → Int64), pm_inv X b' I' J' → pm_wp pm_code pm_meta (d + 42) 317 2180 ([.ref 1, .ref 8, .ref 79, .int (Int32.ofNat p)], [], (pm_Gb L b', I', J')) Q) :
    pm_wp pm_code pm_meta (d + 42) 317 369 ([.ref 1, .ref 8, .ref 79, .int (Int32.ofNat p)], [], (pm_Gb L b, I, J)) Q := by
  have h1 : I 1 = X := hI.2.2.2.2.2.2.2.2.2.1
  rw [lw_369]
  refine ⟨lw_in hL hp (by decide), lw_in hL hp (by decide), ?_⟩
  rw [h1]
  refine wc_kT (po_die (d := d + 21) hI) Gb_nx (fun v w H' hk hr => ?_)
  obtain ⟨⟨T, O, nx, sl⟩, I', J'⟩ := H'
  obtain ⟨k1, k2, k3, k4⟩ := hk
  have e79 : T 79 = (0, 11) := k1
  have e1 : T 1 = (1, L) := k2
  have eT : pm_t (pm_t T 79 (0, 11)) 1 (1, L) = T := by rw [pm_t_id e79, pm_t_id e1]
  have eI : I' 1 = X := by funext j; exact (k3 j).trans (by show I 1 j = X j; rw [h1])
  rw [← eT] at hr ⊢
  rw [lx_383]
  refine ⟨lw_in hL hp (by decide), lw_in hL hp (by decide), ?_⟩
  rw [eI]
  obtain ⟨n, v2, w2, H2, g1, g2, I2, J2, g3, g4⟩ := hr
  refine ⟨n, v2, w2, H2, g1, ?_⟩
  rw [g3, g2]
  show pm_wp _ _ _ _ _ _ _
  rw [ly_397, if_pos rfl]
  exact hQ b I2 J2 g4
theorem lc_4 {d L p : Nat} {b : Bool} {I : Nat → Nat → Int32} {J : Nat → Nat → Int64} {X : Nat → Int32} {Q : Int32 → Int64 → pm_H → Prop} (hI : pm_inv X b I J) (hL : L ≤ 576) (hp : p + 9 ≤ L) (hQ : ∀ (b' : Bool) (I' : Nat → Nat → Int32) (J' : Nat → Nat → Int64), pm_inv X b' I' J' → pm_wp pm_code pm_meta (d + 42) 317 2180 ([.ref 1, .ref 8, .ref 79, .int (Int32.ofNat p)], [], (pm_Gb L b', I', J')) Q) :
    pm_wp pm_code pm_meta (d + 42) 317 402 ([.ref 1, .ref 8, .ref 79, .int (Int32.ofNat p)], [], (pm_Gb L b, I, J)) Q := by
  have h1 : I 1 = X := hI.2.2.2.2.2.2.2.2.2.1
  rw [lw_402]
  refine ⟨lw_in hL hp (by decide), lw_in hL hp (by decide), lw_in hL hp (by decide), lw_in hL hp (by decide), ?_⟩
  rw [h1]
  refine wc_kT (po_house (d := d + 21) hI) Gb_nx (fun v w H' hk hr => ?_)
  obtain ⟨⟨T, O, nx, sl⟩, I', J'⟩ := H'
  obtain ⟨k1, k2, k3, k4⟩ := hk
  have e79 : T 79 = (0, 11) := k1
  have e1 : T 1 = (1, L) := k2
  have eT : pm_t (pm_t T 79 (0, 11)) 1 (1, L) = T := by rw [pm_t_id e79, pm_t_id e1]
  have eI : I' 1 = X := by funext j; exact (k3 j).trans (by show I 1 j = X j; rw [h1])
  rw [← eT] at hr ⊢
  rw [lx_426]
  refine ⟨lw_in hL hp (by decide), lw_in hL hp (by decide), lw_in hL hp (by decide), lw_in hL hp (by decide), ?_⟩
  rw [eI]
  obtain ⟨n, v2, w2, H2, g1, g2, I2, J2, g3, g4⟩ := hr
  refine ⟨n, v2, w2, H2, g1, ?_⟩
  rw [g3, g2]
  show pm_wp _ _ _ _ _ _ _
  rw [ly_450, if_pos rfl]
  exact hQ b I2 J2 g4
theorem lc_5 {d L p : Nat} {b : Bool} {I : Nat → Nat → Int32} {J : Nat → Nat → Int64} {X : Nat → Int32} {Q : Int32 → Int64 → pm_H → Prop} (hI : pm_inv X b I J) (hL : L ≤ 576) (hp : p + 9 ≤ L) (hQ : ∀ (b' : Bool) (I' : Nat → Nat → Int32) (J' : Nat → Nat → Int64), pm_inv X b' I' J' → pm_wp pm_code pm_meta (d + 42) 317 2180 ([.ref 1, .ref 8, .ref 79, .int (Int32.ofNat p)], [], (pm_Gb L b', I', J')) Q) :
    pm_wp pm_code pm_meta (d + 42) 317 455 ([.ref 1, .ref 8, .ref 79, .int (Int32.ofNat p)], [], (pm_Gb L b, I, J)) Q := by
  have h1 : I 1 = X := hI.2.2.2.2.2.2.2.2.2.1
  rw [lw_455]
  refine ⟨lw_in hL hp (by decide), ?_⟩
  rw [h1]
  refine wc_kT (po_fall (d := d + 21) hI) Gb_nx (fun v w H' hk hr => ?_)
  obtain ⟨⟨T, O, nx, sl⟩, I', J'⟩ := H'
  obtain ⟨k1, k2, k3, k4⟩ := hk
  have e79 : T 79 = (0, 11) := k1
  have e1 : T 1 = (1, L) := k2
  have eT : pm_t (pm_t T 79 (0, 11)) 1 (1, L) = T := by rw [pm_t_id e79, pm_t_id e1]
  have eI : I' 1 = X := by funext j; exact (k3 j).trans (by show I 1 j = X j; rw [h1])
  rw [← eT] at hr ⊢
  rw [lx_464]
  refine ⟨lw_in hL hp (by decide), ?_⟩
  rw [eI]
  obtain ⟨n, v2, w2, H2, g1, g2, I2, J2, g3, g4⟩ := hr
  refine ⟨n, v2, w2, H2, g1, ?_⟩
  rw [g3, g2]
  show pm_wp _ _ _ _ _ _ _
  rw [ly_473, if_pos rfl]
  exact hQ b I2 J2 g4
theorem lc_6 {d L p : Nat} {b : Bool} {I : Nat → Nat → Int32} {J : Nat → Nat → Int64} {X : Nat → Int32} {Q : Int32 → Int64 → pm_H → Prop} (hI : pm_inv X b I J) (hL : L ≤ 576) (hp : p + 9 ≤ L) (hQ : ∀ (b' : Bool) (I' : Nat → Nat → Int32) (J' : Nat → Nat → Int64), pm_inv X b' I' J' → pm_wp pm_code pm_meta (d + 42) 317 2180 ([.ref 1, .ref 8, .ref 79, .int (Int32.ofNat p)], [], (pm_Gb L b', I', J')) Q) :
    pm_wp pm_code pm_meta (d + 42) 317 478 ([.ref 1, .ref 8, .ref 79, .int (Int32.ofNat p)], [], (pm_Gb L b, I, J)) Q := by
  have h1 : I 1 = X := hI.2.2.2.2.2.2.2.2.2.1
  rw [lw_478]
  refine ⟨lw_in hL hp (by decide), lw_in hL hp (by decide), ?_⟩
  rw [h1]
  refine wc_kT (po_houseOf (d := d + 21) hI) Gb_nx (fun v w H' hk hr => ?_)
  obtain ⟨⟨T, O, nx, sl⟩, I', J'⟩ := H'
  obtain ⟨k1, k2, k3, k4⟩ := hk
  have e79 : T 79 = (0, 11) := k1
  have e1 : T 1 = (1, L) := k2
  have eT : pm_t (pm_t T 79 (0, 11)) 1 (1, L) = T := by rw [pm_t_id e79, pm_t_id e1]
  have eI : I' 1 = X := by funext j; exact (k3 j).trans (by show I 1 j = X j; rw [h1])
  rw [← eT] at hr ⊢
  rw [lx_492]
  refine ⟨lw_in hL hp (by decide), lw_in hL hp (by decide), ?_⟩
  rw [eI]
  obtain ⟨n, v2, w2, H2, g1, g2, I2, J2, g3, g4⟩ := hr
  refine ⟨n, v2, w2, H2, g1, ?_⟩
  rw [g3, g2]
  show pm_wp _ _ _ _ _ _ _
  rw [ly_506, if_pos rfl]
  exact hQ b I2 J2 g4
theorem lc_7 {d L p : Nat} {b : Bool} {I : Nat → Nat → Int32} {J : Nat → Nat → Int64} {X : Nat → Int32} {Q : Int32 → Int64 → pm_H → Prop} (hI : pm_inv X b I J) (hL : L ≤ 576) (hp : p + 9 ≤ L) (hQ : ∀ (b' : Bool) (I' : Nat → Nat → Int32) (J' : Nat → Nat → Int64), pm_inv X b' I' J' → pm_wp pm_code pm_meta (d + 42) 317 2180 ([.ref 1, .ref 8, .ref 79, .int (Int32.ofNat p)], [], (pm_Gb L b', I', J')) Q) :
    pm_wp pm_code pm_meta (d + 42) 317 511 ([.ref 1, .ref 8, .ref 79, .int (Int32.ofNat p)], [], (pm_Gb L b, I, J)) Q := by
  have h1 : I 1 = X := hI.2.2.2.2.2.2.2.2.2.1
  rw [lw_511]
  refine ⟨lw_in hL hp (by decide), lw_in hL hp (by decide), lw_in hL hp (by decide), ?_⟩
  rw [h1]
  refine wc_kT (po_thing (d := d + 21) hI) Gb_nx (fun v w H' hk hr => ?_)
  obtain ⟨⟨T, O, nx, sl⟩, I', J'⟩ := H'
  obtain ⟨k1, k2, k3, k4⟩ := hk
  have e79 : T 79 = (0, 11) := k1
  have e1 : T 1 = (1, L) := k2
  have eT : pm_t (pm_t T 79 (0, 11)) 1 (1, L) = T := by rw [pm_t_id e79, pm_t_id e1]
  have eI : I' 1 = X := by funext j; exact (k3 j).trans (by show I 1 j = X j; rw [h1])
  rw [← eT] at hr ⊢
  rw [lx_530]
  refine ⟨lw_in hL hp (by decide), lw_in hL hp (by decide), lw_in hL hp (by decide), ?_⟩
  rw [eI]
  obtain ⟨n, v2, w2, H2, g1, g2, I2, J2, g3, g4⟩ := hr
  refine ⟨n, v2, w2, H2, g1, ?_⟩
  rw [g3, g2]
  show pm_wp _ _ _ _ _ _ _
  rw [ly_549, if_pos rfl]
  exact hQ b I2 J2 g4
theorem lc_8 {d L p : Nat} {b : Bool} {I : Nat → Nat → Int32} {J : Nat → Nat → Int64} {X : Nat → Int32} {Q : Int32 → Int64 → pm_H → Prop} (hI : pm_inv X b I J) (hL : L ≤ 576) (hp : p + 9 ≤ L) (hQ : ∀ (b' : Bool) (I' : Nat → Nat → Int32) (J' : Nat → Nat → Int64), pm_inv X b' I' J' → pm_wp pm_code pm_meta (d + 42) 317 2180 ([.ref 1, .ref 8, .ref 79, .int (Int32.ofNat p)], [], (pm_Gb L b', I', J')) Q) :
    pm_wp pm_code pm_meta (d + 42) 317 554 ([.ref 1, .ref 8, .ref 79, .int (Int32.ofNat p)], [], (pm_Gb L b, I, J)) Q := by
  have h1 : I 1 = X := hI.2.2.2.2.2.2.2.2.2.1
  rw [lw_554]
  refine ⟨lw_in hL hp (by decide), lw_in hL hp (by decide), ?_⟩
  rw [h1]
  refine wc_kT (po_thingOf (d := d + 21) hI) Gb_nx (fun v w H' hk hr => ?_)
  obtain ⟨⟨T, O, nx, sl⟩, I', J'⟩ := H'
  obtain ⟨k1, k2, k3, k4⟩ := hk
  have e79 : T 79 = (0, 11) := k1
  have e1 : T 1 = (1, L) := k2
  have eT : pm_t (pm_t T 79 (0, 11)) 1 (1, L) = T := by rw [pm_t_id e79, pm_t_id e1]
  have eI : I' 1 = X := by funext j; exact (k3 j).trans (by show I 1 j = X j; rw [h1])
  rw [← eT] at hr ⊢
  rw [lx_568]
  refine ⟨lw_in hL hp (by decide), lw_in hL hp (by decide), ?_⟩
  rw [eI]
  obtain ⟨n, v2, w2, H2, g1, g2, I2, J2, g3, g4⟩ := hr
  refine ⟨n, v2, w2, H2, g1, ?_⟩
  rw [g3, g2]
  show pm_wp _ _ _ _ _ _ _
  rw [ly_582, if_pos rfl]
  exact hQ b I2 J2 g4
theorem lc_9 {d L p : Nat} {b : Bool} {I : Nat → Nat → Int32} {J : Nat → Nat → Int64} {X : Nat → Int32} {Q : Int32 → Int64 → pm_H → Prop} (hI : pm_inv X b I J) (hL : L ≤ 576) (hp : p + 9 ≤ L) (hQ : ∀ (b' : Bool) (I' : Nat → Nat → Int32) (J' : Nat → Nat → Int64), pm_inv X b' I' J' → pm_wp pm_code pm_meta (d + 42) 317 2180 ([.ref 1, .ref 8, .ref 79, .int (Int32.ofNat p)], [], (pm_Gb L b', I', J')) Q) :
    pm_wp pm_code pm_meta (d + 42) 317 587 ([.ref 1, .ref 8, .ref 79, .int (Int32.ofNat p)], [], (pm_Gb L b, I, J)) Q := by
  have h1 : I 1 = X := hI.2.2.2.2.2.2.2.2.2.1
  rw [lw_587]
  refine ⟨lw_in hL hp (by decide), ?_⟩
  rw [h1]
  refine wc_kT (po_sell (d := d + 21) hI) Gb_nx (fun v w H' hk hr => ?_)
  obtain ⟨⟨T, O, nx, sl⟩, I', J'⟩ := H'
  obtain ⟨k1, k2, k3, k4⟩ := hk
  have e79 : T 79 = (0, 11) := k1
  have e1 : T 1 = (1, L) := k2
  have eT : pm_t (pm_t T 79 (0, 11)) 1 (1, L) = T := by rw [pm_t_id e79, pm_t_id e1]
  have eI : I' 1 = X := by funext j; exact (k3 j).trans (by show I 1 j = X j; rw [h1])
  rw [← eT] at hr ⊢
  rw [lx_596]
  refine ⟨lw_in hL hp (by decide), ?_⟩
  rw [eI]
  obtain ⟨n, v2, w2, H2, g1, g2, I2, J2, g3, g4⟩ := hr
  refine ⟨n, v2, w2, H2, g1, ?_⟩
  rw [g3, g2]
  show pm_wp _ _ _ _ _ _ _
  rw [ly_605, if_pos rfl]
  exact hQ b I2 J2 g4
theorem lc_10 {d L p : Nat} {b : Bool} {I : Nat → Nat → Int32} {J : Nat → Nat → Int64} {X : Nat → Int32} {Q : Int32 → Int64 → pm_H → Prop} (hI : pm_inv X b I J) (hL : L ≤ 576) (hp : p + 9 ≤ L) (hQ : ∀ (b' : Bool) (I' : Nat → Nat → Int32) (J' : Nat → Nat → Int64), pm_inv X b' I' J' → pm_wp pm_code pm_meta (d + 42) 317 2180 ([.ref 1, .ref 8, .ref 79, .int (Int32.ofNat p)], [], (pm_Gb L b', I', J')) Q) :
    pm_wp pm_code pm_meta (d + 42) 317 610 ([.ref 1, .ref 8, .ref 79, .int (Int32.ofNat p)], [], (pm_Gb L b, I, J)) Q := by
  have h1 : I 1 = X := hI.2.2.2.2.2.2.2.2.2.1
  rw [lw_610]
  refine ⟨lw_in hL hp (by decide), lw_in hL hp (by decide), ?_⟩
  rw [h1]
  refine wc_kT (po_show (d := d + 21) hI) Gb_nx (fun v w H' hk hr => ?_)
  obtain ⟨⟨T, O, nx, sl⟩, I', J'⟩ := H'
  obtain ⟨k1, k2, k3, k4⟩ := hk
  have e79 : T 79 = (0, 11) := k1
  have e1 : T 1 = (1, L) := k2
  have eT : pm_t (pm_t T 79 (0, 11)) 1 (1, L) = T := by rw [pm_t_id e79, pm_t_id e1]
  have eI : I' 1 = X := by funext j; exact (k3 j).trans (by show I 1 j = X j; rw [h1])
  rw [← eT] at hr ⊢
  rw [lx_624]
  refine ⟨lw_in hL hp (by decide), lw_in hL hp (by decide), ?_⟩
  rw [eI]
  obtain ⟨n, v2, w2, H2, g1, g2, I2, J2, g3, g4⟩ := hr
  refine ⟨n, v2, w2, H2, g1, ?_⟩
  rw [g3, g2]
  show pm_wp _ _ _ _ _ _ _
  rw [ly_638, if_pos rfl]
  exact hQ b I2 J2 g4
theorem lc_11 {d L p : Nat} {b : Bool} {I : Nat → Nat → Int32} {J : Nat → Nat → Int64} {X : Nat → Int32} {Q : Int32 → Int64 → pm_H → Prop} (hI : pm_inv X b I J) (hL : L ≤ 576) (hp : p + 9 ≤ L) (hQ : ∀ (b' : Bool) (I' : Nat → Nat → Int32) (J' : Nat → Nat → Int64), pm_inv X b' I' J' → pm_wp pm_code pm_meta (d + 42) 317 2180 ([.ref 1, .ref 8, .ref 79, .int (Int32.ofNat p)], [], (pm_Gb L b', I', J')) Q) :
    pm_wp pm_code pm_meta (d + 42) 317 643 ([.ref 1, .ref 8, .ref 79, .int (Int32.ofNat p)], [], (pm_Gb L b, I, J)) Q := by
  have h1 : I 1 = X := hI.2.2.2.2.2.2.2.2.2.1
  rw [lw_643]
  refine ⟨lw_in hL hp (by decide), ?_⟩
  rw [h1]
  refine wc_kT (po_strip (d := d + 21) hI) Gb_nx (fun v w H' hk hr => ?_)
  obtain ⟨⟨T, O, nx, sl⟩, I', J'⟩ := H'
  obtain ⟨k1, k2, k3, k4⟩ := hk
  have e79 : T 79 = (0, 11) := k1
  have e1 : T 1 = (1, L) := k2
  have eT : pm_t (pm_t T 79 (0, 11)) 1 (1, L) = T := by rw [pm_t_id e79, pm_t_id e1]
  have eI : I' 1 = X := by funext j; exact (k3 j).trans (by show I 1 j = X j; rw [h1])
  rw [← eT] at hr ⊢
  rw [lx_652]
  refine ⟨lw_in hL hp (by decide), ?_⟩
  rw [eI]
  obtain ⟨n, v2, w2, H2, g1, g2, I2, J2, g3, g4⟩ := hr
  refine ⟨n, v2, w2, H2, g1, ?_⟩
  rw [g3, g2]
  show pm_wp _ _ _ _ _ _ _
  rw [ly_661, if_pos rfl]
  exact hQ b I2 J2 g4
theorem lc_12 {d L p : Nat} {b : Bool} {I : Nat → Nat → Int32} {J : Nat → Nat → Int64} {X : Nat → Int32} {Q : Int32 → Int64 → pm_H → Prop} (hI : pm_inv X b I J) (hL : L ≤ 576) (hp : p + 9 ≤ L) (hQ : ∀ (b' : Bool) (I' : Nat → Nat → Int32) (J' : Nat → Nat → Int64), pm_inv X b' I' J' → pm_wp pm_code pm_meta (d + 42) 317 2180 ([.ref 1, .ref 8, .ref 79, .int (Int32.ofNat p)], [], (pm_Gb L b', I', J')) Q) :
    pm_wp pm_code pm_meta (d + 42) 317 666 ([.ref 1, .ref 8, .ref 79, .int (Int32.ofNat p)], [], (pm_Gb L b, I, J)) Q := by
  have h1 : I 1 = X := hI.2.2.2.2.2.2.2.2.2.1
  rw [lw_666]
  refine ⟨lw_in hL hp (by decide), lw_in hL hp (by decide), lw_in hL hp (by decide), lw_in hL hp (by decide), lw_in hL hp (by decide), lw_in hL hp (by decide), lw_in hL hp (by decide), lw_in hL hp (by decide), ?_⟩
  rw [h1]
  refine wc_kT (po_right (d := d + 21) hI) Gb_nx (fun v w H' hk hr => ?_)
  obtain ⟨⟨T, O, nx, sl⟩, I', J'⟩ := H'
  obtain ⟨k1, k2, k3, k4⟩ := hk
  have e79 : T 79 = (0, 11) := k1
  have e1 : T 1 = (1, L) := k2
  have eT : pm_t (pm_t T 79 (0, 11)) 1 (1, L) = T := by rw [pm_t_id e79, pm_t_id e1]
  have eI : I' 1 = X := by funext j; exact (k3 j).trans (by show I 1 j = X j; rw [h1])
  rw [← eT] at hr ⊢
  rw [lx_713]
  refine ⟨lw_in hL hp (by decide), lw_in hL hp (by decide), lw_in hL hp (by decide), lw_in hL hp (by decide), lw_in hL hp (by decide), lw_in hL hp (by decide), lw_in hL hp (by decide), lw_in hL hp (by decide), ?_⟩
  rw [eI]
  obtain ⟨n, v2, w2, H2, g1, g2, I2, J2, g3, g4⟩ := hr
  refine ⟨n, v2, w2, H2, g1, ?_⟩
  rw [g3, g2]
  show pm_wp _ _ _ _ _ _ _
  rw [ly_760, if_pos rfl]
  exact hQ b I2 J2 g4
theorem lc_13 {d L p : Nat} {b : Bool} {I : Nat → Nat → Int32} {J : Nat → Nat → Int64} {X : Nat → Int32} {Q : Int32 → Int64 → pm_H → Prop} (hI : pm_inv X b I J) (hL : L ≤ 576) (hp : p + 9 ≤ L) (hQ : ∀ (b' : Bool) (I' : Nat → Nat → Int32) (J' : Nat → Nat → Int64), pm_inv X b' I' J' → pm_wp pm_code pm_meta (d + 42) 317 2180 ([.ref 1, .ref 8, .ref 79, .int (Int32.ofNat p)], [], (pm_Gb L b', I', J')) Q) :
    pm_wp pm_code pm_meta (d + 42) 317 765 ([.ref 1, .ref 8, .ref 79, .int (Int32.ofNat p)], [], (pm_Gb L b, I, J)) Q := by
  have h1 : I 1 = X := hI.2.2.2.2.2.2.2.2.2.1
  rw [lw_765]
  refine ⟨lw_in hL hp (by decide), lw_in hL hp (by decide), ?_⟩
  rw [h1]
  refine wc_kT (po_rightOf (d := d + 21) hI) Gb_nx (fun v w H' hk hr => ?_)
  obtain ⟨⟨T, O, nx, sl⟩, I', J'⟩ := H'
  obtain ⟨k1, k2, k3, k4⟩ := hk
  have e79 : T 79 = (0, 11) := k1
  have e1 : T 1 = (1, L) := k2
  have eT : pm_t (pm_t T 79 (0, 11)) 1 (1, L) = T := by rw [pm_t_id e79, pm_t_id e1]
  have eI : I' 1 = X := by funext j; exact (k3 j).trans (by show I 1 j = X j; rw [h1])
  rw [← eT] at hr ⊢
  rw [lx_779]
  refine ⟨lw_in hL hp (by decide), lw_in hL hp (by decide), ?_⟩
  rw [eI]
  obtain ⟨n, v2, w2, H2, g1, g2, I2, J2, g3, g4⟩ := hr
  refine ⟨n, v2, w2, H2, g1, ?_⟩
  rw [g3, g2]
  show pm_wp _ _ _ _ _ _ _
  rw [ly_793, if_pos rfl]
  exact hQ b I2 J2 g4
theorem lc_14 {d L p : Nat} {b : Bool} {I : Nat → Nat → Int32} {J : Nat → Nat → Int64} {X : Nat → Int32} {Q : Int32 → Int64 → pm_H → Prop} (hI : pm_inv X b I J) (hL : L ≤ 576) (hp : p + 9 ≤ L) (hQ : ∀ (b' : Bool) (I' : Nat → Nat → Int32) (J' : Nat → Nat → Int64), pm_inv X b' I' J' → pm_wp pm_code pm_meta (d + 42) 317 2180 ([.ref 1, .ref 8, .ref 79, .int (Int32.ofNat p)], [], (pm_Gb L b', I', J')) Q) :
    pm_wp pm_code pm_meta (d + 42) 317 798 ([.ref 1, .ref 8, .ref 79, .int (Int32.ofNat p)], [], (pm_Gb L b, I, J)) Q := by
  have h1 : I 1 = X := hI.2.2.2.2.2.2.2.2.2.1
  rw [lw_798]
  refine ⟨lw_in hL hp (by decide), ?_⟩
  rw [h1]
  refine wc_kT (po_hangs (d := d + 21) hI) Gb_nx (fun v w H' hk hr => ?_)
  obtain ⟨⟨T, O, nx, sl⟩, I', J'⟩ := H'
  obtain ⟨k1, k2, k3, k4⟩ := hk
  have e79 : T 79 = (0, 11) := k1
  have e1 : T 1 = (1, L) := k2
  have eT : pm_t (pm_t T 79 (0, 11)) 1 (1, L) = T := by rw [pm_t_id e79, pm_t_id e1]
  have eI : I' 1 = X := by funext j; exact (k3 j).trans (by show I 1 j = X j; rw [h1])
  rw [← eT] at hr ⊢
  rw [lx_807]
  refine ⟨lw_in hL hp (by decide), ?_⟩
  rw [eI]
  obtain ⟨n, v2, w2, H2, g1, g2, I2, J2, g3, g4⟩ := hr
  refine ⟨n, v2, w2, H2, g1, ?_⟩
  rw [g3, g2]
  show pm_wp _ _ _ _ _ _ _
  rw [ly_816, if_pos rfl]
  exact hQ b I2 J2 g4
theorem lc_15 {d L p : Nat} {b : Bool} {I : Nat → Nat → Int32} {J : Nat → Nat → Int64} {X : Nat → Int32} {Q : Int32 → Int64 → pm_H → Prop} (hI : pm_inv X b I J) (hL : L ≤ 576) (hp : p + 9 ≤ L) (hQ : ∀ (b' : Bool) (I' : Nat → Nat → Int32) (J' : Nat → Nat → Int64), pm_inv X b' I' J' → pm_wp pm_code pm_meta (d + 42) 317 2180 ([.ref 1, .ref 8, .ref 79, .int (Int32.ofNat p)], [], (pm_Gb L b', I', J')) Q) :
    pm_wp pm_code pm_meta (d + 42) 317 821 ([.ref 1, .ref 8, .ref 79, .int (Int32.ofNat p)], [], (pm_Gb L b, I, J)) Q := by
  have h1 : I 1 = X := hI.2.2.2.2.2.2.2.2.2.1
  rw [lw_821]
  refine ⟨lw_in hL hp (by decide), ?_⟩
  rw [h1]
  refine wc_kT (po_prove (d := d + 21) hI) Gb_nx (fun v w H' hk hr => ?_)
  obtain ⟨⟨T, O, nx, sl⟩, I', J'⟩ := H'
  obtain ⟨k1, k2, k3, k4⟩ := hk
  have e79 : T 79 = (0, 11) := k1
  have e1 : T 1 = (1, L) := k2
  have eT : pm_t (pm_t T 79 (0, 11)) 1 (1, L) = T := by rw [pm_t_id e79, pm_t_id e1]
  have eI : I' 1 = X := by funext j; exact (k3 j).trans (by show I 1 j = X j; rw [h1])
  rw [← eT] at hr ⊢
  rw [lx_830]
  refine ⟨lw_in hL hp (by decide), ?_⟩
  rw [eI]
  obtain ⟨n, v2, w2, H2, g1, g2, I2, J2, g3, g4⟩ := hr
  refine ⟨n, v2, w2, H2, g1, ?_⟩
  rw [g3, g2]
  show pm_wp _ _ _ _ _ _ _
  rw [ly_839, if_pos rfl]
  exact hQ b I2 J2 g4
theorem lc_16 {d L p : Nat} {b : Bool} {I : Nat → Nat → Int32} {J : Nat → Nat → Int64} {X : Nat → Int32} {Q : Int32 → Int64 → pm_H → Prop} (hI : pm_inv X b I J) (hL : L ≤ 576) (hp : p + 9 ≤ L) (hQ : ∀ (b' : Bool) (I' : Nat → Nat → Int32) (J' : Nat → Nat → Int64), pm_inv X b' I' J' → pm_wp pm_code pm_meta (d + 42) 317 2180 ([.ref 1, .ref 8, .ref 79, .int (Int32.ofNat p)], [], (pm_Gb L b', I', J')) Q) :
    pm_wp pm_code pm_meta (d + 42) 317 844 ([.ref 1, .ref 8, .ref 79, .int (Int32.ofNat p)], [], (pm_Gb L b, I, J)) Q := by
  have h1 : I 1 = X := hI.2.2.2.2.2.2.2.2.2.1
  rw [lw_844]
  refine ⟨lw_in hL hp (by decide), lw_in hL hp (by decide), lw_in hL hp (by decide), ?_⟩
  rw [h1]
  refine wc_kT (po_feed (d := d + 21) hI) Gb_nx (fun v w H' hk hr => ?_)
  obtain ⟨⟨T, O, nx, sl⟩, I', J'⟩ := H'
  obtain ⟨k1, k2, k3, k4⟩ := hk
  have e79 : T 79 = (0, 11) := k1
  have e1 : T 1 = (1, L) := k2
  have eT : pm_t (pm_t T 79 (0, 11)) 1 (1, L) = T := by rw [pm_t_id e79, pm_t_id e1]
  have eI : I' 1 = X := by funext j; exact (k3 j).trans (by show I 1 j = X j; rw [h1])
  rw [← eT] at hr ⊢
  rw [lx_873]
  refine ⟨lw_in hL hp (by decide), lw_in hL hp (by decide), lw_in hL hp (by decide), ?_⟩
  rw [eI]
  obtain ⟨n, v2, w2, H2, g1, g2, I2, J2, g3, g4⟩ := hr
  refine ⟨n, v2, w2, H2, g1, ?_⟩
  rw [g3, g2]
  show pm_wp _ _ _ _ _ _ _
  rw [ly_902, if_pos rfl]
  exact hQ b I2 J2 g4
theorem lc_17 {d L p : Nat} {b : Bool} {I : Nat → Nat → Int32} {J : Nat → Nat → Int64} {X : Nat → Int32} {Q : Int32 → Int64 → pm_H → Prop} (hI : pm_inv X b I J) (hL : L ≤ 576) (hp : p + 9 ≤ L) (hread : ∀ {d : Nat} {b : Bool} {I : Nat → Nat → Int32} {J : Nat → Nat → Int64} {x1 : Int32}, pm_inv X b I J → pm_wc pm_code pm_meta (d + 40) 133 [.ref 8, .int x1] (pm_Gb L b, I, J) (fun v _ H => pm_wc pm_code pm_meta (d + 40) 233 [.ref 79, .int x1] H (pm_ok X L b v))) (hQ : ∀ (b' : Bool) (I' : Nat → Nat → Int32) (J' : Nat → Nat → Int64), pm_inv X b' I' J' → pm_wp pm_code pm_meta (d + 42) 317 2180 ([.ref 1, .ref 8, .ref 79, .int (Int32.ofNat p)], [], (pm_Gb L b', I', J')) Q) :
    pm_wp pm_code pm_meta (d + 42) 317 907 ([.ref 1, .ref 8, .ref 79, .int (Int32.ofNat p)], [], (pm_Gb L b, I, J)) Q := by
  have h1 : I 1 = X := hI.2.2.2.2.2.2.2.2.2.1
  rw [lw_907]
  refine ⟨lw_in hL hp (by decide), ?_⟩
  rw [h1]
  refine wc_kT (hread (d := d + 1) hI) Gb_nx (fun v w H' hk hr => ?_)
  obtain ⟨⟨T, O, nx, sl⟩, I', J'⟩ := H'
  obtain ⟨k1, k2, k3, k4⟩ := hk
  have e79 : T 79 = (0, 11) := k1
  have e1 : T 1 = (1, L) := k2
  have eT : pm_t (pm_t T 79 (0, 11)) 1 (1, L) = T := by rw [pm_t_id e79, pm_t_id e1]
  have eI : I' 1 = X := by funext j; exact (k3 j).trans (by show I 1 j = X j; rw [h1])
  rw [← eT] at hr ⊢
  rw [lx_916]
  refine ⟨lw_in hL hp (by decide), ?_⟩
  rw [eI]
  obtain ⟨n, v2, w2, H2, g1, g2, I2, J2, g3, g4⟩ := hr
  refine ⟨n, v2, w2, H2, g1, ?_⟩
  rw [g3, g2]
  show pm_wp _ _ _ _ _ _ _
  rw [ly_925, if_pos rfl]
  exact hQ b I2 J2 g4
theorem lc_18 {d L p : Nat} {b : Bool} {I : Nat → Nat → Int32} {J : Nat → Nat → Int64} {X : Nat → Int32} {Q : Int32 → Int64 → pm_H → Prop} (hI : pm_inv X b I J) (hL : L ≤ 576) (hp : p + 9 ≤ L) (hQ : ∀ (b' : Bool) (I' : Nat → Nat → Int32) (J' : Nat → Nat → Int64), pm_inv X b' I' J' → pm_wp pm_code pm_meta (d + 42) 317 2180 ([.ref 1, .ref 8, .ref 79, .int (Int32.ofNat p)], [], (pm_Gb L b', I', J')) Q) :
    pm_wp pm_code pm_meta (d + 42) 317 930 ([.ref 1, .ref 8, .ref 79, .int (Int32.ofNat p)], [], (pm_Gb L b, I, J)) Q := by
  have h1 : I 1 = X := hI.2.2.2.2.2.2.2.2.2.1
  rw [lw_930]
  refine ⟨lw_in hL hp (by decide), ?_⟩
  rw [h1]
  refine wc_kT (po_strike (d := d + 21) hI) Gb_nx (fun v w H' hk hr => ?_)
  obtain ⟨⟨T, O, nx, sl⟩, I', J'⟩ := H'
  obtain ⟨k1, k2, k3, k4⟩ := hk
  have e79 : T 79 = (0, 11) := k1
  have e1 : T 1 = (1, L) := k2
  have eT : pm_t (pm_t T 79 (0, 11)) 1 (1, L) = T := by rw [pm_t_id e79, pm_t_id e1]
  have eI : I' 1 = X := by funext j; exact (k3 j).trans (by show I 1 j = X j; rw [h1])
  rw [← eT] at hr ⊢
  rw [lx_939]
  refine ⟨lw_in hL hp (by decide), ?_⟩
  rw [eI]
  obtain ⟨n, v2, w2, H2, g1, g2, I2, J2, g3, g4⟩ := hr
  refine ⟨n, v2, w2, H2, g1, ?_⟩
  rw [g3, g2]
  show pm_wp _ _ _ _ _ _ _
  rw [ly_948, if_pos rfl]
  exact hQ b I2 J2 g4
theorem lc_19 {d L p : Nat} {b : Bool} {I : Nat → Nat → Int32} {J : Nat → Nat → Int64} {X : Nat → Int32} {Q : Int32 → Int64 → pm_H → Prop} (hI : pm_inv X b I J) (hL : L ≤ 576) (hp : p + 9 ≤ L) (hQ : ∀ (b' : Bool) (I' : Nat → Nat → Int32) (J' : Nat → Nat → Int64), pm_inv X b' I' J' → pm_wp pm_code pm_meta (d + 42) 317 2180 ([.ref 1, .ref 8, .ref 79, .int (Int32.ofNat p)], [], (pm_Gb L b', I', J')) Q) :
    pm_wp pm_code pm_meta (d + 42) 317 953 ([.ref 1, .ref 8, .ref 79, .int (Int32.ofNat p)], [], (pm_Gb L b, I, J)) Q := by
  have h1 : I 1 = X := hI.2.2.2.2.2.2.2.2.2.1
  rw [lw_953]
  refine ⟨lw_in hL hp (by decide), lw_in hL hp (by decide), ?_⟩
  rw [h1]
  refine wc_kT (po_version (d := d + 21) hI) Gb_nx (fun v w H' hk hr => ?_)
  obtain ⟨⟨T, O, nx, sl⟩, I', J'⟩ := H'
  obtain ⟨k1, k2, k3, k4⟩ := hk
  have e79 : T 79 = (0, 11) := k1
  have e1 : T 1 = (1, L) := k2
  have eT : pm_t (pm_t T 79 (0, 11)) 1 (1, L) = T := by rw [pm_t_id e79, pm_t_id e1]
  have eI : I' 1 = X := by funext j; exact (k3 j).trans (by show I 1 j = X j; rw [h1])
  rw [← eT] at hr ⊢
  rw [lx_967]
  refine ⟨lw_in hL hp (by decide), lw_in hL hp (by decide), ?_⟩
  rw [eI]
  obtain ⟨n, v2, w2, H2, g1, g2, I2, J2, g3, g4⟩ := hr
  refine ⟨n, v2, w2, H2, g1, ?_⟩
  rw [g3, g2]
  show pm_wp _ _ _ _ _ _ _
  rw [ly_981, if_pos rfl]
  exact hQ b I2 J2 g4
theorem lc_20 {d L p : Nat} {b : Bool} {I : Nat → Nat → Int32} {J : Nat → Nat → Int64} {X : Nat → Int32} {Q : Int32 → Int64 → pm_H → Prop} (hI : pm_inv X b I J) (hL : L ≤ 576) (hp : p + 9 ≤ L) (hQ : ∀ (b' : Bool) (I' : Nat → Nat → Int32) (J' : Nat → Nat → Int64), pm_inv X b' I' J' → pm_wp pm_code pm_meta (d + 42) 317 2180 ([.ref 1, .ref 8, .ref 79, .int (Int32.ofNat p)], [], (pm_Gb L b', I', J')) Q) :
    pm_wp pm_code pm_meta (d + 42) 317 986 ([.ref 1, .ref 8, .ref 79, .int (Int32.ofNat p)], [], (pm_Gb L b, I, J)) Q := by
  have h1 : I 1 = X := hI.2.2.2.2.2.2.2.2.2.1
  rw [lw_986]
  refine ⟨lw_in hL hp (by decide), ?_⟩
  rw [h1]
  refine wc_kT (po_stands (d := d + 21) hI) Gb_nx (fun v w H' hk hr => ?_)
  obtain ⟨⟨T, O, nx, sl⟩, I', J'⟩ := H'
  obtain ⟨k1, k2, k3, k4⟩ := hk
  have e79 : T 79 = (0, 11) := k1
  have e1 : T 1 = (1, L) := k2
  have eT : pm_t (pm_t T 79 (0, 11)) 1 (1, L) = T := by rw [pm_t_id e79, pm_t_id e1]
  have eI : I' 1 = X := by funext j; exact (k3 j).trans (by show I 1 j = X j; rw [h1])
  rw [← eT] at hr ⊢
  rw [lx_995]
  refine ⟨lw_in hL hp (by decide), ?_⟩
  rw [eI]
  obtain ⟨n, v2, w2, H2, g1, g2, I2, J2, g3, g4⟩ := hr
  refine ⟨n, v2, w2, H2, g1, ?_⟩
  rw [g3, g2]
  show pm_wp _ _ _ _ _ _ _
  rw [ly_1004, if_pos rfl]
  exact hQ b I2 J2 g4
theorem lc_21 {d L p : Nat} {b : Bool} {I : Nat → Nat → Int32} {J : Nat → Nat → Int64} {X : Nat → Int32} {Q : Int32 → Int64 → pm_H → Prop} (hI : pm_inv X b I J) (hL : L ≤ 576) (hp : p + 9 ≤ L) (hQ : ∀ (b' : Bool) (I' : Nat → Nat → Int32) (J' : Nat → Nat → Int64), pm_inv X b' I' J' → pm_wp pm_code pm_meta (d + 42) 317 2180 ([.ref 1, .ref 8, .ref 79, .int (Int32.ofNat p)], [], (pm_Gb L b', I', J')) Q) :
    pm_wp pm_code pm_meta (d + 42) 317 1009 ([.ref 1, .ref 8, .ref 79, .int (Int32.ofNat p)], [], (pm_Gb L b, I, J)) Q := by
  have h1 : I 1 = X := hI.2.2.2.2.2.2.2.2.2.1
  rw [lw_1009]
  refine ⟨lw_in hL hp (by decide), ?_⟩
  rw [h1]
  refine wc_kT (po_why (d := d + 21) hI) Gb_nx (fun v w H' hk hr => ?_)
  obtain ⟨⟨T, O, nx, sl⟩, I', J'⟩ := H'
  obtain ⟨k1, k2, k3, k4⟩ := hk
  have e79 : T 79 = (0, 11) := k1
  have e1 : T 1 = (1, L) := k2
  have eT : pm_t (pm_t T 79 (0, 11)) 1 (1, L) = T := by rw [pm_t_id e79, pm_t_id e1]
  have eI : I' 1 = X := by funext j; exact (k3 j).trans (by show I 1 j = X j; rw [h1])
  rw [← eT] at hr ⊢
  rw [lx_1018]
  refine ⟨lw_in hL hp (by decide), ?_⟩
  rw [eI]
  obtain ⟨n, v2, w2, H2, g1, g2, I2, J2, g3, g4⟩ := hr
  refine ⟨n, v2, w2, H2, g1, ?_⟩
  rw [g3, g2]
  show pm_wp _ _ _ _ _ _ _
  rw [ly_1027, if_pos rfl]
  exact hQ b I2 J2 g4
theorem lc_22 {d L p : Nat} {b : Bool} {I : Nat → Nat → Int32} {J : Nat → Nat → Int64} {X : Nat → Int32} {Q : Int32 → Int64 → pm_H → Prop} (hI : pm_inv X b I J) (hL : L ≤ 576) (hp : p + 9 ≤ L) (hQ : ∀ (b' : Bool) (I' : Nat → Nat → Int32) (J' : Nat → Nat → Int64), pm_inv X b' I' J' → pm_wp pm_code pm_meta (d + 42) 317 2180 ([.ref 1, .ref 8, .ref 79, .int (Int32.ofNat p)], [], (pm_Gb L b', I', J')) Q) :
    pm_wp pm_code pm_meta (d + 42) 317 1032 ([.ref 1, .ref 8, .ref 79, .int (Int32.ofNat p)], [], (pm_Gb L b, I, J)) Q := by
  have h1 : I 1 = X := hI.2.2.2.2.2.2.2.2.2.1
  rw [lw_1032]
  refine ⟨lw_in hL hp (by decide), ?_⟩
  rw [h1]
  refine wc_kT (po_rank (d := d + 21) hI) Gb_nx (fun v w H' hk hr => ?_)
  obtain ⟨⟨T, O, nx, sl⟩, I', J'⟩ := H'
  obtain ⟨k1, k2, k3, k4⟩ := hk
  have e79 : T 79 = (0, 11) := k1
  have e1 : T 1 = (1, L) := k2
  have eT : pm_t (pm_t T 79 (0, 11)) 1 (1, L) = T := by rw [pm_t_id e79, pm_t_id e1]
  have eI : I' 1 = X := by funext j; exact (k3 j).trans (by show I 1 j = X j; rw [h1])
  rw [← eT] at hr ⊢
  rw [lx_1041]
  refine ⟨lw_in hL hp (by decide), ?_⟩
  rw [eI]
  obtain ⟨n, v2, w2, H2, g1, g2, I2, J2, g3, g4⟩ := hr
  refine ⟨n, v2, w2, H2, g1, ?_⟩
  rw [g3, g2]
  show pm_wp _ _ _ _ _ _ _
  rw [ly_1050, if_pos rfl]
  exact hQ b I2 J2 g4
theorem lc_23 {d L p : Nat} {b : Bool} {I : Nat → Nat → Int32} {J : Nat → Nat → Int64} {X : Nat → Int32} {Q : Int32 → Int64 → pm_H → Prop} (hI : pm_inv X b I J) (hL : L ≤ 576) (hp : p + 9 ≤ L) (hQ : ∀ (b' : Bool) (I' : Nat → Nat → Int32) (J' : Nat → Nat → Int64), pm_inv X b' I' J' → pm_wp pm_code pm_meta (d + 42) 317 2180 ([.ref 1, .ref 8, .ref 79, .int (Int32.ofNat p)], [], (pm_Gb L b', I', J')) Q) :
    pm_wp pm_code pm_meta (d + 42) 317 1055 ([.ref 1, .ref 8, .ref 79, .int (Int32.ofNat p)], [], (pm_Gb L b, I, J)) Q := by
  have h1 : I 1 = X := hI.2.2.2.2.2.2.2.2.2.1
  rw [lw_1055]
  refine ⟨lw_in hL hp (by decide), ?_⟩
  rw [h1]
  refine wc_kT (po_gets (d := d + 21) hI) Gb_nx (fun v w H' hk hr => ?_)
  obtain ⟨⟨T, O, nx, sl⟩, I', J'⟩ := H'
  obtain ⟨k1, k2, k3, k4⟩ := hk
  have e79 : T 79 = (0, 11) := k1
  have e1 : T 1 = (1, L) := k2
  have eT : pm_t (pm_t T 79 (0, 11)) 1 (1, L) = T := by rw [pm_t_id e79, pm_t_id e1]
  have eI : I' 1 = X := by funext j; exact (k3 j).trans (by show I 1 j = X j; rw [h1])
  rw [← eT] at hr ⊢
  rw [lx_1064]
  refine ⟨lw_in hL hp (by decide), ?_⟩
  rw [eI]
  obtain ⟨n, v2, w2, H2, g1, g2, I2, J2, g3, g4⟩ := hr
  refine ⟨n, v2, w2, H2, g1, ?_⟩
  rw [g3, g2]
  show pm_wp _ _ _ _ _ _ _
  rw [ly_1073, if_pos rfl]
  exact hQ b I2 J2 g4
theorem lc_24 {d L p : Nat} {b : Bool} {I : Nat → Nat → Int32} {J : Nat → Nat → Int64} {X : Nat → Int32} {Q : Int32 → Int64 → pm_H → Prop} (hI : pm_inv X b I J) (hL : L ≤ 576) (hp : p + 9 ≤ L) (hQ : ∀ (b' : Bool) (I' : Nat → Nat → Int32) (J' : Nat → Nat → Int64), pm_inv X b' I' J' → pm_wp pm_code pm_meta (d + 42) 317 2180 ([.ref 1, .ref 8, .ref 79, .int (Int32.ofNat p)], [], (pm_Gb L b', I', J')) Q) :
    pm_wp pm_code pm_meta (d + 42) 317 1078 ([.ref 1, .ref 8, .ref 79, .int (Int32.ofNat p)], [], (pm_Gb L b, I, J)) Q := by
  have h1 : I 1 = X := hI.2.2.2.2.2.2.2.2.2.1
  rw [lw_1078]
  refine ⟨lw_in hL hp (by decide), lw_in hL hp (by decide), ?_⟩
  rw [h1]
  refine wc_kT (po_pension (d := d + 21) hI) Gb_nx (fun v w H' hk hr => ?_)
  obtain ⟨⟨T, O, nx, sl⟩, I', J'⟩ := H'
  obtain ⟨k1, k2, k3, k4⟩ := hk
  have e79 : T 79 = (0, 11) := k1
  have e1 : T 1 = (1, L) := k2
  have eT : pm_t (pm_t T 79 (0, 11)) 1 (1, L) = T := by rw [pm_t_id e79, pm_t_id e1]
  have eI : I' 1 = X := by funext j; exact (k3 j).trans (by show I 1 j = X j; rw [h1])
  rw [← eT] at hr ⊢
  rw [lx_1092]
  refine ⟨lw_in hL hp (by decide), lw_in hL hp (by decide), ?_⟩
  rw [eI]
  obtain ⟨n, v2, w2, H2, g1, g2, I2, J2, g3, g4⟩ := hr
  refine ⟨n, v2, w2, H2, g1, ?_⟩
  rw [g3, g2]
  show pm_wp _ _ _ _ _ _ _
  rw [ly_1106, if_pos rfl]
  exact hQ b I2 J2 g4
theorem lc_25 {d L p : Nat} {b : Bool} {I : Nat → Nat → Int32} {J : Nat → Nat → Int64} {X : Nat → Int32} {Q : Int32 → Int64 → pm_H → Prop} (hI : pm_inv X b I J) (hL : L ≤ 576) (hp : p + 9 ≤ L) (hQ : ∀ (b' : Bool) (I' : Nat → Nat → Int32) (J' : Nat → Nat → Int64), pm_inv X b' I' J' → pm_wp pm_code pm_meta (d + 42) 317 2180 ([.ref 1, .ref 8, .ref 79, .int (Int32.ofNat p)], [], (pm_Gb L b', I', J')) Q) :
    pm_wp pm_code pm_meta (d + 42) 317 1111 ([.ref 1, .ref 8, .ref 79, .int (Int32.ofNat p)], [], (pm_Gb L b, I, J)) Q := by
  have h1 : I 1 = X := hI.2.2.2.2.2.2.2.2.2.1
  rw [lw_1111]
  refine ⟨lw_in hL hp (by decide), lw_in hL hp (by decide), ?_⟩
  rw [h1]
  refine wc_kT (po_witness (d := d + 21) hI) Gb_nx (fun v w H' hk hr => ?_)
  obtain ⟨⟨T, O, nx, sl⟩, I', J'⟩ := H'
  obtain ⟨k1, k2, k3, k4⟩ := hk
  have e79 : T 79 = (0, 11) := k1
  have e1 : T 1 = (1, L) := k2
  have eT : pm_t (pm_t T 79 (0, 11)) 1 (1, L) = T := by rw [pm_t_id e79, pm_t_id e1]
  have eI : I' 1 = X := by funext j; exact (k3 j).trans (by show I 1 j = X j; rw [h1])
  rw [← eT] at hr ⊢
  rw [lx_1125]
  refine ⟨lw_in hL hp (by decide), lw_in hL hp (by decide), ?_⟩
  rw [eI]
  obtain ⟨n, v2, w2, H2, g1, g2, I2, J2, g3, g4⟩ := hr
  refine ⟨n, v2, w2, H2, g1, ?_⟩
  rw [g3, g2]
  show pm_wp _ _ _ _ _ _ _
  rw [ly_1139, if_pos rfl]
  exact hQ b I2 J2 g4
theorem lc_26 {d L p : Nat} {b : Bool} {I : Nat → Nat → Int32} {J : Nat → Nat → Int64} {X : Nat → Int32} {Q : Int32 → Int64 → pm_H → Prop} (hI : pm_inv X b I J) (hL : L ≤ 576) (hp : p + 9 ≤ L) (hQ : ∀ (b' : Bool) (I' : Nat → Nat → Int32) (J' : Nat → Nat → Int64), pm_inv X b' I' J' → pm_wp pm_code pm_meta (d + 42) 317 2180 ([.ref 1, .ref 8, .ref 79, .int (Int32.ofNat p)], [], (pm_Gb L b', I', J')) Q) :
    pm_wp pm_code pm_meta (d + 42) 317 1144 ([.ref 1, .ref 8, .ref 79, .int (Int32.ofNat p)], [], (pm_Gb L b, I, J)) Q := by
  have h1 : I 1 = X := hI.2.2.2.2.2.2.2.2.2.1
  rw [lw_1144]
  refine ⟨lw_in hL hp (by decide), lw_in hL hp (by decide), ?_⟩
  rw [h1]
  refine wc_kT (po_sealOf (d := d + 21) hI) Gb_nx (fun v w H' hk hr => ?_)
  obtain ⟨⟨T, O, nx, sl⟩, I', J'⟩ := H'
  obtain ⟨k1, k2, k3, k4⟩ := hk
  have e79 : T 79 = (0, 11) := k1
  have e1 : T 1 = (1, L) := k2
  have eT : pm_t (pm_t T 79 (0, 11)) 1 (1, L) = T := by rw [pm_t_id e79, pm_t_id e1]
  have eI : I' 1 = X := by funext j; exact (k3 j).trans (by show I 1 j = X j; rw [h1])
  rw [← eT] at hr ⊢
  rw [lx_1158]
  refine ⟨lw_in hL hp (by decide), lw_in hL hp (by decide), ?_⟩
  rw [eI]
  obtain ⟨n, v2, w2, H2, g1, g2, I2, J2, g3, g4⟩ := hr
  refine ⟨n, v2, w2, H2, g1, ?_⟩
  rw [g3, g2]
  show pm_wp _ _ _ _ _ _ _
  rw [ly_1172, if_pos rfl]
  exact hQ b I2 J2 g4
theorem lc_27 {d L p : Nat} {b : Bool} {I : Nat → Nat → Int32} {J : Nat → Nat → Int64} {X : Nat → Int32} {Q : Int32 → Int64 → pm_H → Prop} (hI : pm_inv X b I J) (hL : L ≤ 576) (hp : p + 9 ≤ L) (hQ : ∀ (b' : Bool) (I' : Nat → Nat → Int32) (J' : Nat → Nat → Int64), pm_inv X b' I' J' → pm_wp pm_code pm_meta (d + 42) 317 2180 ([.ref 1, .ref 8, .ref 79, .int (Int32.ofNat p)], [], (pm_Gb L b', I', J')) Q) :
    pm_wp pm_code pm_meta (d + 42) 317 1177 ([.ref 1, .ref 8, .ref 79, .int (Int32.ofNat p)], [], (pm_Gb L b, I, J)) Q := by
  have h1 : I 1 = X := hI.2.2.2.2.2.2.2.2.2.1
  rw [lw_1177]
  refine ⟨lw_in hL hp (by decide), lw_in hL hp (by decide), ?_⟩
  rw [h1]
  refine wc_kT (po_seal (d := d + 21) hI) Gb_nx (fun v w H' hk hr => ?_)
  obtain ⟨⟨T, O, nx, sl⟩, I', J'⟩ := H'
  obtain ⟨k1, k2, k3, k4⟩ := hk
  have e79 : T 79 = (0, 11) := k1
  have e1 : T 1 = (1, L) := k2
  have eT : pm_t (pm_t T 79 (0, 11)) 1 (1, L) = T := by rw [pm_t_id e79, pm_t_id e1]
  have eI : I' 1 = X := by funext j; exact (k3 j).trans (by show I 1 j = X j; rw [h1])
  rw [← eT] at hr ⊢
  rw [lx_1191]
  refine ⟨lw_in hL hp (by decide), lw_in hL hp (by decide), ?_⟩
  rw [eI]
  obtain ⟨n, v2, w2, H2, g1, g2, I2, J2, g3, g4⟩ := hr
  refine ⟨n, v2, w2, H2, g1, ?_⟩
  rw [g3, g2]
  show pm_wp _ _ _ _ _ _ _
  rw [ly_1205, if_pos rfl]
  exact hQ b I2 J2 g4
theorem lc_28 {d L p : Nat} {b : Bool} {I : Nat → Nat → Int32} {J : Nat → Nat → Int64} {X : Nat → Int32} {Q : Int32 → Int64 → pm_H → Prop} (hI : pm_inv X b I J) (hL : L ≤ 576) (hp : p + 9 ≤ L) (hQ : ∀ (b' : Bool) (I' : Nat → Nat → Int32) (J' : Nat → Nat → Int64), pm_inv X b' I' J' → pm_wp pm_code pm_meta (d + 42) 317 2180 ([.ref 1, .ref 8, .ref 79, .int (Int32.ofNat p)], [], (pm_Gb L b', I', J')) Q) :
    pm_wp pm_code pm_meta (d + 42) 317 1210 ([.ref 1, .ref 8, .ref 79, .int (Int32.ofNat p)], [], (pm_Gb L b, I, J)) Q := by
  have h1 : I 1 = X := hI.2.2.2.2.2.2.2.2.2.1
  rw [lw_1210]
  refine ⟨lw_in hL hp (by decide), lw_in hL hp (by decide), ?_⟩
  rw [h1]
  refine wc_kT (po_told (d := d + 21) hI) Gb_nx (fun v w H' hk hr => ?_)
  obtain ⟨⟨T, O, nx, sl⟩, I', J'⟩ := H'
  obtain ⟨k1, k2, k3, k4⟩ := hk
  have e79 : T 79 = (0, 11) := k1
  have e1 : T 1 = (1, L) := k2
  have eT : pm_t (pm_t T 79 (0, 11)) 1 (1, L) = T := by rw [pm_t_id e79, pm_t_id e1]
  have eI : I' 1 = X := by funext j; exact (k3 j).trans (by show I 1 j = X j; rw [h1])
  rw [← eT] at hr ⊢
  rw [lx_1224]
  refine ⟨lw_in hL hp (by decide), lw_in hL hp (by decide), ?_⟩
  rw [eI]
  obtain ⟨n, v2, w2, H2, g1, g2, I2, J2, g3, g4⟩ := hr
  refine ⟨n, v2, w2, H2, g1, ?_⟩
  rw [g3, g2]
  show pm_wp _ _ _ _ _ _ _
  rw [ly_1238, if_pos rfl]
  exact hQ b I2 J2 g4
theorem lc_29 {d L p : Nat} {b : Bool} {I : Nat → Nat → Int32} {J : Nat → Nat → Int64} {X : Nat → Int32} {Q : Int32 → Int64 → pm_H → Prop} (hI : pm_inv X b I J) (hL : L ≤ 576) (hp : p + 9 ≤ L) (hQ : ∀ (b' : Bool) (I' : Nat → Nat → Int32) (J' : Nat → Nat → Int64), pm_inv X b' I' J' → pm_wp pm_code pm_meta (d + 42) 317 2180 ([.ref 1, .ref 8, .ref 79, .int (Int32.ofNat p)], [], (pm_Gb L b', I', J')) Q) :
    pm_wp pm_code pm_meta (d + 42) 317 1243 ([.ref 1, .ref 8, .ref 79, .int (Int32.ofNat p)], [], (pm_Gb L b, I, J)) Q := by
  have h1 : I 1 = X := hI.2.2.2.2.2.2.2.2.2.1
  rw [lw_1243]
  refine ⟨lw_in hL hp (by decide), lw_in hL hp (by decide), lw_in hL hp (by decide), ?_⟩
  rw [h1]
  refine wc_kT (po_stay (d := d + 21) hI) Gb_nx (fun v w H' hk hr => ?_)
  obtain ⟨⟨T, O, nx, sl⟩, I', J'⟩ := H'
  obtain ⟨k1, k2, k3, k4⟩ := hk
  have e79 : T 79 = (0, 11) := k1
  have e1 : T 1 = (1, L) := k2
  have eT : pm_t (pm_t T 79 (0, 11)) 1 (1, L) = T := by rw [pm_t_id e79, pm_t_id e1]
  have eI : I' 1 = X := by funext j; exact (k3 j).trans (by show I 1 j = X j; rw [h1])
  rw [← eT] at hr ⊢
  rw [lx_1262]
  refine ⟨lw_in hL hp (by decide), lw_in hL hp (by decide), lw_in hL hp (by decide), ?_⟩
  rw [eI]
  obtain ⟨n, v2, w2, H2, g1, g2, I2, J2, g3, g4⟩ := hr
  refine ⟨n, v2, w2, H2, g1, ?_⟩
  rw [g3, g2]
  show pm_wp _ _ _ _ _ _ _
  rw [ly_1281, if_pos rfl]
  exact hQ b I2 J2 g4
theorem lc_30 {d L p : Nat} {b : Bool} {I : Nat → Nat → Int32} {J : Nat → Nat → Int64} {X : Nat → Int32} {Q : Int32 → Int64 → pm_H → Prop} (hI : pm_inv X b I J) (hL : L ≤ 576) (hp : p + 9 ≤ L) (hQ : ∀ (b' : Bool) (I' : Nat → Nat → Int32) (J' : Nat → Nat → Int64), pm_inv X b' I' J' → pm_wp pm_code pm_meta (d + 42) 317 2180 ([.ref 1, .ref 8, .ref 79, .int (Int32.ofNat p)], [], (pm_Gb L b', I', J')) Q) :
    pm_wp pm_code pm_meta (d + 42) 317 1286 ([.ref 1, .ref 8, .ref 79, .int (Int32.ofNat p)], [], (pm_Gb L b, I, J)) Q := by
  have h1 : I 1 = X := hI.2.2.2.2.2.2.2.2.2.1
  rw [lw_1286]
  refine ⟨lw_in hL hp (by decide), ?_⟩
  rw [h1]
  refine wc_kT (po_shown (d := d + 21) hI) Gb_nx (fun v w H' hk hr => ?_)
  obtain ⟨⟨T, O, nx, sl⟩, I', J'⟩ := H'
  obtain ⟨k1, k2, k3, k4⟩ := hk
  have e79 : T 79 = (0, 11) := k1
  have e1 : T 1 = (1, L) := k2
  have eT : pm_t (pm_t T 79 (0, 11)) 1 (1, L) = T := by rw [pm_t_id e79, pm_t_id e1]
  have eI : I' 1 = X := by funext j; exact (k3 j).trans (by show I 1 j = X j; rw [h1])
  rw [← eT] at hr ⊢
  rw [lx_1295]
  refine ⟨lw_in hL hp (by decide), ?_⟩
  rw [eI]
  obtain ⟨n, v2, w2, H2, g1, g2, I2, J2, g3, g4⟩ := hr
  refine ⟨n, v2, w2, H2, g1, ?_⟩
  rw [g3, g2]
  show pm_wp _ _ _ _ _ _ _
  rw [ly_1304, if_pos rfl]
  exact hQ b I2 J2 g4
theorem lc_31 {d L p : Nat} {b : Bool} {I : Nat → Nat → Int32} {J : Nat → Nat → Int64} {X : Nat → Int32} {Q : Int32 → Int64 → pm_H → Prop} (hI : pm_inv X b I J) (hL : L ≤ 576) (hp : p + 9 ≤ L) (hQ : ∀ (b' : Bool) (I' : Nat → Nat → Int32) (J' : Nat → Nat → Int64), pm_inv X b' I' J' → pm_wp pm_code pm_meta (d + 42) 317 2180 ([.ref 1, .ref 8, .ref 79, .int (Int32.ofNat p)], [], (pm_Gb L b', I', J')) Q) :
    pm_wp pm_code pm_meta (d + 42) 317 1309 ([.ref 1, .ref 8, .ref 79, .int (Int32.ofNat p)], [], (pm_Gb L b, I, J)) Q := by
  have h1 : I 1 = X := hI.2.2.2.2.2.2.2.2.2.1
  rw [lw_1309]
  refine ⟨lw_in hL hp (by decide), lw_in hL hp (by decide), ?_⟩
  rw [h1]
  refine wc_kT (po_value (d := d + 21) hI) Gb_nx (fun v w H' hk hr => ?_)
  obtain ⟨⟨T, O, nx, sl⟩, I', J'⟩ := H'
  obtain ⟨k1, k2, k3, k4⟩ := hk
  have e79 : T 79 = (0, 11) := k1
  have e1 : T 1 = (1, L) := k2
  have eT : pm_t (pm_t T 79 (0, 11)) 1 (1, L) = T := by rw [pm_t_id e79, pm_t_id e1]
  have eI : I' 1 = X := by funext j; exact (k3 j).trans (by show I 1 j = X j; rw [h1])
  rw [← eT] at hr ⊢
  rw [lx_1323]
  refine ⟨lw_in hL hp (by decide), lw_in hL hp (by decide), ?_⟩
  rw [eI]
  obtain ⟨n, v2, w2, H2, g1, g2, I2, J2, g3, g4⟩ := hr
  refine ⟨n, v2, w2, H2, g1, ?_⟩
  rw [g3, g2]
  show pm_wp _ _ _ _ _ _ _
  rw [ly_1337, if_pos rfl]
  exact hQ b I2 J2 g4
theorem lc_32 {d L p : Nat} {b : Bool} {I : Nat → Nat → Int32} {J : Nat → Nat → Int64} {X : Nat → Int32} {Q : Int32 → Int64 → pm_H → Prop} (hI : pm_inv X b I J) (hL : L ≤ 576) (hp : p + 9 ≤ L) (hQ : ∀ (b' : Bool) (I' : Nat → Nat → Int32) (J' : Nat → Nat → Int64), pm_inv X b' I' J' → pm_wp pm_code pm_meta (d + 42) 317 2180 ([.ref 1, .ref 8, .ref 79, .int (Int32.ofNat p)], [], (pm_Gb L b', I', J')) Q) :
    pm_wp pm_code pm_meta (d + 42) 317 1342 ([.ref 1, .ref 8, .ref 79, .int (Int32.ofNat p)], [], (pm_Gb L b, I, J)) Q := by
  have h1 : I 1 = X := hI.2.2.2.2.2.2.2.2.2.1
  rw [lw_1342]
  refine ⟨lw_in hL hp (by decide), lw_in hL hp (by decide), ?_⟩
  rw [h1]
  refine wc_kT (po_due (d := d + 21) hI) Gb_nx (fun v w H' hk hr => ?_)
  obtain ⟨⟨T, O, nx, sl⟩, I', J'⟩ := H'
  obtain ⟨k1, k2, k3, k4⟩ := hk
  have e79 : T 79 = (0, 11) := k1
  have e1 : T 1 = (1, L) := k2
  have eT : pm_t (pm_t T 79 (0, 11)) 1 (1, L) = T := by rw [pm_t_id e79, pm_t_id e1]
  have eI : I' 1 = X := by funext j; exact (k3 j).trans (by show I 1 j = X j; rw [h1])
  rw [← eT] at hr ⊢
  rw [lx_1356]
  refine ⟨lw_in hL hp (by decide), lw_in hL hp (by decide), ?_⟩
  rw [eI]
  obtain ⟨n, v2, w2, H2, g1, g2, I2, J2, g3, g4⟩ := hr
  refine ⟨n, v2, w2, H2, g1, ?_⟩
  rw [g3, g2]
  show pm_wp _ _ _ _ _ _ _
  rw [ly_1370, if_pos rfl]
  exact hQ b I2 J2 g4
theorem lc_33 {d L p : Nat} {b : Bool} {I : Nat → Nat → Int32} {J : Nat → Nat → Int64} {X : Nat → Int32} {Q : Int32 → Int64 → pm_H → Prop} (hI : pm_inv X b I J) (hL : L ≤ 576) (hp : p + 9 ≤ L) (hQ : ∀ (b' : Bool) (I' : Nat → Nat → Int32) (J' : Nat → Nat → Int64), pm_inv X b' I' J' → pm_wp pm_code pm_meta (d + 42) 317 2180 ([.ref 1, .ref 8, .ref 79, .int (Int32.ofNat p)], [], (pm_Gb L b', I', J')) Q) :
    pm_wp pm_code pm_meta (d + 42) 317 1375 ([.ref 1, .ref 8, .ref 79, .int (Int32.ofNat p)], [], (pm_Gb L b, I, J)) Q := by
  have h1 : I 1 = X := hI.2.2.2.2.2.2.2.2.2.1
  rw [lw_1375]
  refine ⟨lw_in hL hp (by decide), lw_in hL hp (by decide), lw_in hL hp (by decide), ?_⟩
  rw [h1]
  refine wc_kT (po_ride (d := d + 21) hI) Gb_nx (fun v w H' hk hr => ?_)
  obtain ⟨⟨T, O, nx, sl⟩, I', J'⟩ := H'
  obtain ⟨k1, k2, k3, k4⟩ := hk
  have e79 : T 79 = (0, 11) := k1
  have e1 : T 1 = (1, L) := k2
  have eT : pm_t (pm_t T 79 (0, 11)) 1 (1, L) = T := by rw [pm_t_id e79, pm_t_id e1]
  have eI : I' 1 = X := by funext j; exact (k3 j).trans (by show I 1 j = X j; rw [h1])
  rw [← eT] at hr ⊢
  rw [lx_1394]
  refine ⟨lw_in hL hp (by decide), lw_in hL hp (by decide), lw_in hL hp (by decide), ?_⟩
  rw [eI]
  obtain ⟨n, v2, w2, H2, g1, g2, I2, J2, g3, g4⟩ := hr
  refine ⟨n, v2, w2, H2, g1, ?_⟩
  rw [g3, g2]
  show pm_wp _ _ _ _ _ _ _
  rw [ly_1413, if_pos rfl]
  exact hQ b I2 J2 g4
theorem lc_34 {d L p : Nat} {b : Bool} {I : Nat → Nat → Int32} {J : Nat → Nat → Int64} {X : Nat → Int32} {Q : Int32 → Int64 → pm_H → Prop} (hI : pm_inv X b I J) (hL : L ≤ 576) (hp : p + 9 ≤ L) (hQ : ∀ (b' : Bool) (I' : Nat → Nat → Int32) (J' : Nat → Nat → Int64), pm_inv X b' I' J' → pm_wp pm_code pm_meta (d + 42) 317 2180 ([.ref 1, .ref 8, .ref 79, .int (Int32.ofNat p)], [], (pm_Gb L b', I', J')) Q) :
    pm_wp pm_code pm_meta (d + 42) 317 1418 ([.ref 1, .ref 8, .ref 79, .int (Int32.ofNat p)], [], (pm_Gb L b, I, J)) Q := by
  have h1 : I 1 = X := hI.2.2.2.2.2.2.2.2.2.1
  rw [lw_1418]
  refine ⟨lw_in hL hp (by decide), lw_in hL hp (by decide), ?_⟩
  rw [h1]
  refine wc_kT (po_row (d := d + 21) hI) Gb_nx (fun v w H' hk hr => ?_)
  obtain ⟨⟨T, O, nx, sl⟩, I', J'⟩ := H'
  obtain ⟨k1, k2, k3, k4⟩ := hk
  have e79 : T 79 = (0, 11) := k1
  have e1 : T 1 = (1, L) := k2
  have eT : pm_t (pm_t T 79 (0, 11)) 1 (1, L) = T := by rw [pm_t_id e79, pm_t_id e1]
  have eI : I' 1 = X := by funext j; exact (k3 j).trans (by show I 1 j = X j; rw [h1])
  rw [← eT] at hr ⊢
  rw [lx_1432]
  refine ⟨lw_in hL hp (by decide), lw_in hL hp (by decide), ?_⟩
  rw [eI]
  obtain ⟨n, v2, w2, H2, g1, g2, I2, J2, g3, g4⟩ := hr
  refine ⟨n, v2, w2, H2, g1, ?_⟩
  rw [g3, g2]
  show pm_wp _ _ _ _ _ _ _
  rw [ly_1446, if_pos rfl]
  exact hQ b I2 J2 g4
theorem lc_35 {d L p : Nat} {b : Bool} {I : Nat → Nat → Int32} {J : Nat → Nat → Int64} {X : Nat → Int32} {Q : Int32 → Int64 → pm_H → Prop} (hI : pm_inv X b I J) (hL : L ≤ 576) (hp : p + 9 ≤ L) (hQ : ∀ (b' : Bool) (I' : Nat → Nat → Int32) (J' : Nat → Nat → Int64), pm_inv X b' I' J' → pm_wp pm_code pm_meta (d + 42) 317 2180 ([.ref 1, .ref 8, .ref 79, .int (Int32.ofNat p)], [], (pm_Gb L b', I', J')) Q) :
    pm_wp pm_code pm_meta (d + 42) 317 1451 ([.ref 1, .ref 8, .ref 79, .int (Int32.ofNat p)], [], (pm_Gb L b, I, J)) Q := by
  have h1 : I 1 = X := hI.2.2.2.2.2.2.2.2.2.1
  rw [lw_1451]
  refine ⟨lw_in hL hp (by decide), lw_in hL hp (by decide), lw_in hL hp (by decide), ?_⟩
  rw [h1]
  refine wc_kT (po_alterRow (d := d + 21) hI) Gb_nx (fun v w H' hk hr => ?_)
  obtain ⟨⟨T, O, nx, sl⟩, I', J'⟩ := H'
  obtain ⟨k1, k2, k3, k4⟩ := hk
  have e79 : T 79 = (0, 11) := k1
  have e1 : T 1 = (1, L) := k2
  have eT : pm_t (pm_t T 79 (0, 11)) 1 (1, L) = T := by rw [pm_t_id e79, pm_t_id e1]
  have eI : I' 1 = X := by funext j; exact (k3 j).trans (by show I 1 j = X j; rw [h1])
  rw [← eT] at hr ⊢
  rw [lx_1470]
  refine ⟨lw_in hL hp (by decide), lw_in hL hp (by decide), lw_in hL hp (by decide), ?_⟩
  rw [eI]
  obtain ⟨n, v2, w2, H2, g1, g2, I2, J2, g3, g4⟩ := hr
  refine ⟨n, v2, w2, H2, g1, ?_⟩
  rw [g3, g2]
  show pm_wp _ _ _ _ _ _ _
  rw [ly_1489, if_pos rfl]
  exact hQ b I2 J2 g4
theorem lc_36 {d L p : Nat} {b : Bool} {I : Nat → Nat → Int32} {J : Nat → Nat → Int64} {X : Nat → Int32} {Q : Int32 → Int64 → pm_H → Prop} (hI : pm_inv X b I J) (hL : L ≤ 576) (hp : p + 9 ≤ L) (hQ : ∀ (b' : Bool) (I' : Nat → Nat → Int32) (J' : Nat → Nat → Int64), pm_inv X b' I' J' → pm_wp pm_code pm_meta (d + 42) 317 2180 ([.ref 1, .ref 8, .ref 79, .int (Int32.ofNat p)], [], (pm_Gb L b', I', J')) Q) :
    pm_wp pm_code pm_meta (d + 42) 317 1494 ([.ref 1, .ref 8, .ref 79, .int (Int32.ofNat p)], [], (pm_Gb L b, I, J)) Q := by
  have h1 : I 1 = X := hI.2.2.2.2.2.2.2.2.2.1
  rw [lw_1494]
  refine wc_kT (po_dropRow (d := d + 21) hI) Gb_nx (fun v w H' hk hr => ?_)
  obtain ⟨⟨T, O, nx, sl⟩, I', J'⟩ := H'
  obtain ⟨k1, k2, k3, k4⟩ := hk
  have e79 : T 79 = (0, 11) := k1
  have e1 : T 1 = (1, L) := k2
  have eT : pm_t (pm_t T 79 (0, 11)) 1 (1, L) = T := by rw [pm_t_id e79, pm_t_id e1]
  have eI : I' 1 = X := by funext j; exact (k3 j).trans (by show I 1 j = X j; rw [h1])
  rw [← eT] at hr ⊢
  rw [lx_1498]
  obtain ⟨n, v2, w2, H2, g1, g2, I2, J2, g3, g4⟩ := hr
  refine ⟨n, v2, w2, H2, g1, ?_⟩
  rw [g3, g2]
  show pm_wp _ _ _ _ _ _ _
  rw [ly_1502, if_pos rfl]
  exact hQ b I2 J2 g4
theorem lc_37 {d L p : Nat} {b : Bool} {I : Nat → Nat → Int32} {J : Nat → Nat → Int64} {X : Nat → Int32} {Q : Int32 → Int64 → pm_H → Prop} (hI : pm_inv X b I J) (hL : L ≤ 576) (hp : p + 9 ≤ L) (hQ : ∀ (b' : Bool) (I' : Nat → Nat → Int32) (J' : Nat → Nat → Int64), pm_inv X b' I' J' → pm_wp pm_code pm_meta (d + 42) 317 2180 ([.ref 1, .ref 8, .ref 79, .int (Int32.ofNat p)], [], (pm_Gb L b', I', J')) Q) :
    pm_wp pm_code pm_meta (d + 42) 317 1507 ([.ref 1, .ref 8, .ref 79, .int (Int32.ofNat p)], [], (pm_Gb L b, I, J)) Q := by
  have h1 : I 1 = X := hI.2.2.2.2.2.2.2.2.2.1
  rw [lw_1507]
  refine wc_kT (po_judge (d := d + 21) hI) Gb_nx (fun v w H' hk hr => ?_)
  obtain ⟨⟨T, O, nx, sl⟩, I', J'⟩ := H'
  obtain ⟨k1, k2, k3, k4⟩ := hk
  have e79 : T 79 = (0, 11) := k1
  have e1 : T 1 = (1, L) := k2
  have eT : pm_t (pm_t T 79 (0, 11)) 1 (1, L) = T := by rw [pm_t_id e79, pm_t_id e1]
  have eI : I' 1 = X := by funext j; exact (k3 j).trans (by show I 1 j = X j; rw [h1])
  rw [← eT] at hr ⊢
  rw [lx_1511]
  obtain ⟨n, v2, w2, H2, g1, g2, I2, J2, g3, g4⟩ := hr
  refine ⟨n, v2, w2, H2, g1, ?_⟩
  rw [g3, g2]
  show pm_wp _ _ _ _ _ _ _
  rw [ly_1515, if_pos rfl]
  exact hQ b I2 J2 g4
theorem lc_38 {d L p : Nat} {b : Bool} {I : Nat → Nat → Int32} {J : Nat → Nat → Int64} {X : Nat → Int32} {Q : Int32 → Int64 → pm_H → Prop} (hI : pm_inv X b I J) (hL : L ≤ 576) (hp : p + 9 ≤ L) (hQ : ∀ (b' : Bool) (I' : Nat → Nat → Int32) (J' : Nat → Nat → Int64), pm_inv X b' I' J' → pm_wp pm_code pm_meta (d + 42) 317 2180 ([.ref 1, .ref 8, .ref 79, .int (Int32.ofNat p)], [], (pm_Gb L b', I', J')) Q) :
    pm_wp pm_code pm_meta (d + 42) 317 1520 ([.ref 1, .ref 8, .ref 79, .int (Int32.ofNat p)], [], (pm_Gb L b, I, J)) Q := by
  have h1 : I 1 = X := hI.2.2.2.2.2.2.2.2.2.1
  rw [lw_1520]
  refine ⟨lw_in hL hp (by decide), ?_⟩
  rw [h1]
  refine wc_kT (po_lot (d := d + 21) hI) Gb_nx (fun v w H' hk hr => ?_)
  obtain ⟨⟨T, O, nx, sl⟩, I', J'⟩ := H'
  obtain ⟨k1, k2, k3, k4⟩ := hk
  have e79 : T 79 = (0, 11) := k1
  have e1 : T 1 = (1, L) := k2
  have eT : pm_t (pm_t T 79 (0, 11)) 1 (1, L) = T := by rw [pm_t_id e79, pm_t_id e1]
  have eI : I' 1 = X := by funext j; exact (k3 j).trans (by show I 1 j = X j; rw [h1])
  rw [← eT] at hr ⊢
  rw [lx_1529]
  refine ⟨lw_in hL hp (by decide), ?_⟩
  rw [eI]
  obtain ⟨n, v2, w2, H2, g1, g2, I2, J2, g3, g4⟩ := hr
  refine ⟨n, v2, w2, H2, g1, ?_⟩
  rw [g3, g2]
  show pm_wp _ _ _ _ _ _ _
  rw [ly_1538, if_pos rfl]
  exact hQ b I2 J2 g4
theorem lc_39 {d L p : Nat} {b : Bool} {I : Nat → Nat → Int32} {J : Nat → Nat → Int64} {X : Nat → Int32} {Q : Int32 → Int64 → pm_H → Prop} (hI : pm_inv X b I J) (hL : L ≤ 576) (hp : p + 9 ≤ L) (hQ : ∀ (b' : Bool) (I' : Nat → Nat → Int32) (J' : Nat → Nat → Int64), pm_inv X b' I' J' → pm_wp pm_code pm_meta (d + 42) 317 2180 ([.ref 1, .ref 8, .ref 79, .int (Int32.ofNat p)], [], (pm_Gb L b', I', J')) Q) :
    pm_wp pm_code pm_meta (d + 42) 317 1543 ([.ref 1, .ref 8, .ref 79, .int (Int32.ofNat p)], [], (pm_Gb L b, I, J)) Q := by
  have h1 : I 1 = X := hI.2.2.2.2.2.2.2.2.2.1
  rw [lw_1543]
  refine ⟨lw_in hL hp (by decide), ?_⟩
  rw [h1]
  refine wc_kT (po_buyer (d := d + 21) hI) Gb_nx (fun v w H' hk hr => ?_)
  obtain ⟨⟨T, O, nx, sl⟩, I', J'⟩ := H'
  obtain ⟨k1, k2, k3, k4⟩ := hk
  have e79 : T 79 = (0, 11) := k1
  have e1 : T 1 = (1, L) := k2
  have eT : pm_t (pm_t T 79 (0, 11)) 1 (1, L) = T := by rw [pm_t_id e79, pm_t_id e1]
  have eI : I' 1 = X := by funext j; exact (k3 j).trans (by show I 1 j = X j; rw [h1])
  rw [← eT] at hr ⊢
  rw [lx_1552]
  refine ⟨lw_in hL hp (by decide), ?_⟩
  rw [eI]
  obtain ⟨n, v2, w2, H2, g1, g2, I2, J2, g3, g4⟩ := hr
  refine ⟨n, v2, w2, H2, g1, ?_⟩
  rw [g3, g2]
  show pm_wp _ _ _ _ _ _ _
  rw [ly_1561, if_pos rfl]
  exact hQ b I2 J2 g4
theorem lc_40 {d L p : Nat} {b : Bool} {I : Nat → Nat → Int32} {J : Nat → Nat → Int64} {X : Nat → Int32} {Q : Int32 → Int64 → pm_H → Prop} (hI : pm_inv X b I J) (hL : L ≤ 576) (hp : p + 9 ≤ L) (hQ : ∀ (b' : Bool) (I' : Nat → Nat → Int32) (J' : Nat → Nat → Int64), pm_inv X b' I' J' → pm_wp pm_code pm_meta (d + 42) 317 2180 ([.ref 1, .ref 8, .ref 79, .int (Int32.ofNat p)], [], (pm_Gb L b', I', J')) Q) :
    pm_wp pm_code pm_meta (d + 42) 317 1566 ([.ref 1, .ref 8, .ref 79, .int (Int32.ofNat p)], [], (pm_Gb L b, I, J)) Q := by
  have h1 : I 1 = X := hI.2.2.2.2.2.2.2.2.2.1
  rw [lw_1566]
  refine wc_kT (po_clear (d := d + 21) hI) Gb_nx (fun v w H' hk hr => ?_)
  obtain ⟨⟨T, O, nx, sl⟩, I', J'⟩ := H'
  obtain ⟨k1, k2, k3, k4⟩ := hk
  have e79 : T 79 = (0, 11) := k1
  have e1 : T 1 = (1, L) := k2
  have eT : pm_t (pm_t T 79 (0, 11)) 1 (1, L) = T := by rw [pm_t_id e79, pm_t_id e1]
  have eI : I' 1 = X := by funext j; exact (k3 j).trans (by show I 1 j = X j; rw [h1])
  rw [← eT] at hr ⊢
  rw [lx_1570]
  obtain ⟨n, v2, w2, H2, g1, g2, I2, J2, g3, g4⟩ := hr
  refine ⟨n, v2, w2, H2, g1, ?_⟩
  rw [g3, g2]
  show pm_wp _ _ _ _ _ _ _
  rw [ly_1574, if_pos rfl]
  exact hQ b I2 J2 g4
theorem lc_41 {d L p : Nat} {b : Bool} {I : Nat → Nat → Int32} {J : Nat → Nat → Int64} {X : Nat → Int32} {Q : Int32 → Int64 → pm_H → Prop} (hI : pm_inv X b I J) (hL : L ≤ 576) (hp : p + 9 ≤ L) (hQ : ∀ (b' : Bool) (I' : Nat → Nat → Int32) (J' : Nat → Nat → Int64), pm_inv X b' I' J' → pm_wp pm_code pm_meta (d + 42) 317 2180 ([.ref 1, .ref 8, .ref 79, .int (Int32.ofNat p)], [], (pm_Gb L b', I', J')) Q) :
    pm_wp pm_code pm_meta (d + 42) 317 1579 ([.ref 1, .ref 8, .ref 79, .int (Int32.ofNat p)], [], (pm_Gb L b, I, J)) Q := by
  have h1 : I 1 = X := hI.2.2.2.2.2.2.2.2.2.1
  rw [lw_1579]
  refine ⟨lw_in hL hp (by decide), lw_in hL hp (by decide), ?_⟩
  rw [h1]
  refine wc_kT (po_sale (d := d + 21) hI) Gb_nx (fun v w H' hk hr => ?_)
  obtain ⟨⟨T, O, nx, sl⟩, I', J'⟩ := H'
  obtain ⟨k1, k2, k3, k4⟩ := hk
  have e79 : T 79 = (0, 11) := k1
  have e1 : T 1 = (1, L) := k2
  have eT : pm_t (pm_t T 79 (0, 11)) 1 (1, L) = T := by rw [pm_t_id e79, pm_t_id e1]
  have eI : I' 1 = X := by funext j; exact (k3 j).trans (by show I 1 j = X j; rw [h1])
  rw [← eT] at hr ⊢
  rw [lx_1593]
  refine ⟨lw_in hL hp (by decide), lw_in hL hp (by decide), ?_⟩
  rw [eI]
  obtain ⟨n, v2, w2, H2, g1, g2, I2, J2, g3, g4⟩ := hr
  refine ⟨n, v2, w2, H2, g1, ?_⟩
  rw [g3, g2]
  show pm_wp _ _ _ _ _ _ _
  rw [ly_1607, if_pos rfl]
  exact hQ b I2 J2 g4
theorem lc_42 {d L p : Nat} {b : Bool} {I : Nat → Nat → Int32} {J : Nat → Nat → Int64} {X : Nat → Int32} {Q : Int32 → Int64 → pm_H → Prop} (hI : pm_inv X b I J) (hL : L ≤ 576) (hp : p + 9 ≤ L) (hQ : ∀ (b' : Bool) (I' : Nat → Nat → Int32) (J' : Nat → Nat → Int64), pm_inv X b' I' J' → pm_wp pm_code pm_meta (d + 42) 317 2180 ([.ref 1, .ref 8, .ref 79, .int (Int32.ofNat p)], [], (pm_Gb L b', I', J')) Q) :
    pm_wp pm_code pm_meta (d + 42) 317 1612 ([.ref 1, .ref 8, .ref 79, .int (Int32.ofNat p)], [], (pm_Gb L b, I, J)) Q := by
  have h1 : I 1 = X := hI.2.2.2.2.2.2.2.2.2.1
  rw [lw_1612]
  refine ⟨lw_in hL hp (by decide), lw_in hL hp (by decide), lw_in hL hp (by decide), lw_in hL hp (by decide), lw_in hL hp (by decide), ?_⟩
  rw [h1]
  refine wc_kT (po_deed (d := d + 21) hI) Gb_nx (fun v w H' hk hr => ?_)
  obtain ⟨⟨T, O, nx, sl⟩, I', J'⟩ := H'
  obtain ⟨k1, k2, k3, k4⟩ := hk
  have e79 : T 79 = (0, 11) := k1
  have e1 : T 1 = (1, L) := k2
  have eT : pm_t (pm_t T 79 (0, 11)) 1 (1, L) = T := by rw [pm_t_id e79, pm_t_id e1]
  have eI : I' 1 = X := by funext j; exact (k3 j).trans (by show I 1 j = X j; rw [h1])
  rw [← eT] at hr ⊢
  rw [lx_1641]
  refine ⟨lw_in hL hp (by decide), lw_in hL hp (by decide), lw_in hL hp (by decide), lw_in hL hp (by decide), lw_in hL hp (by decide), ?_⟩
  rw [eI]
  obtain ⟨n, v2, w2, H2, g1, g2, I2, J2, g3, g4⟩ := hr
  refine ⟨n, v2, w2, H2, g1, ?_⟩
  rw [g3, g2]
  show pm_wp _ _ _ _ _ _ _
  rw [ly_1670, if_pos rfl]
  exact hQ b I2 J2 g4
theorem lc_43 {d L p : Nat} {b : Bool} {I : Nat → Nat → Int32} {J : Nat → Nat → Int64} {X : Nat → Int32} {Q : Int32 → Int64 → pm_H → Prop} (hI : pm_inv X b I J) (hL : L ≤ 576) (hp : p + 9 ≤ L) (hQ : ∀ (b' : Bool) (I' : Nat → Nat → Int32) (J' : Nat → Nat → Int64), pm_inv X b' I' J' → pm_wp pm_code pm_meta (d + 42) 317 2180 ([.ref 1, .ref 8, .ref 79, .int (Int32.ofNat p)], [], (pm_Gb L b', I', J')) Q) :
    pm_wp pm_code pm_meta (d + 42) 317 1675 ([.ref 1, .ref 8, .ref 79, .int (Int32.ofNat p)], [], (pm_Gb L b, I, J)) Q := by
  have h1 : I 1 = X := hI.2.2.2.2.2.2.2.2.2.1
  rw [lw_1675]
  refine ⟨lw_in hL hp (by decide), lw_in hL hp (by decide), lw_in hL hp (by decide), ?_⟩
  rw [h1]
  refine wc_kT (po_title (d := d + 21) hI) Gb_nx (fun v w H' hk hr => ?_)
  obtain ⟨⟨T, O, nx, sl⟩, I', J'⟩ := H'
  obtain ⟨k1, k2, k3, k4⟩ := hk
  have e79 : T 79 = (0, 11) := k1
  have e1 : T 1 = (1, L) := k2
  have eT : pm_t (pm_t T 79 (0, 11)) 1 (1, L) = T := by rw [pm_t_id e79, pm_t_id e1]
  have eI : I' 1 = X := by funext j; exact (k3 j).trans (by show I 1 j = X j; rw [h1])
  rw [← eT] at hr ⊢
  rw [lx_1694]
  refine ⟨lw_in hL hp (by decide), lw_in hL hp (by decide), lw_in hL hp (by decide), ?_⟩
  rw [eI]
  obtain ⟨n, v2, w2, H2, g1, g2, I2, J2, g3, g4⟩ := hr
  refine ⟨n, v2, w2, H2, g1, ?_⟩
  rw [g3, g2]
  show pm_wp _ _ _ _ _ _ _
  rw [ly_1713, if_pos rfl]
  exact hQ b I2 J2 g4
theorem lc_44 {d L p : Nat} {b : Bool} {I : Nat → Nat → Int32} {J : Nat → Nat → Int64} {X : Nat → Int32} {Q : Int32 → Int64 → pm_H → Prop} (hI : pm_inv X b I J) (hL : L ≤ 576) (hp : p + 9 ≤ L) (hQ : ∀ (b' : Bool) (I' : Nat → Nat → Int32) (J' : Nat → Nat → Int64), pm_inv X b' I' J' → pm_wp pm_code pm_meta (d + 42) 317 2180 ([.ref 1, .ref 8, .ref 79, .int (Int32.ofNat p)], [], (pm_Gb L b', I', J')) Q) :
    pm_wp pm_code pm_meta (d + 42) 317 1718 ([.ref 1, .ref 8, .ref 79, .int (Int32.ofNat p)], [], (pm_Gb L b, I, J)) Q := by
  have h1 : I 1 = X := hI.2.2.2.2.2.2.2.2.2.1
  rw [lw_1718]
  refine ⟨lw_in hL hp (by decide), lw_in hL hp (by decide), ?_⟩
  rw [h1]
  refine wc_kT (po_quarrels (d := d + 21) hI) Gb_nx (fun v w H' hk hr => ?_)
  obtain ⟨⟨T, O, nx, sl⟩, I', J'⟩ := H'
  obtain ⟨k1, k2, k3, k4⟩ := hk
  have e79 : T 79 = (0, 11) := k1
  have e1 : T 1 = (1, L) := k2
  have eT : pm_t (pm_t T 79 (0, 11)) 1 (1, L) = T := by rw [pm_t_id e79, pm_t_id e1]
  have eI : I' 1 = X := by funext j; exact (k3 j).trans (by show I 1 j = X j; rw [h1])
  rw [← eT] at hr ⊢
  rw [lx_1732]
  refine ⟨lw_in hL hp (by decide), lw_in hL hp (by decide), ?_⟩
  rw [eI]
  obtain ⟨n, v2, w2, H2, g1, g2, I2, J2, g3, g4⟩ := hr
  refine ⟨n, v2, w2, H2, g1, ?_⟩
  rw [g3, g2]
  show pm_wp _ _ _ _ _ _ _
  rw [ly_1746, if_pos rfl]
  exact hQ b I2 J2 g4
theorem lc_45 {d L p : Nat} {b : Bool} {I : Nat → Nat → Int32} {J : Nat → Nat → Int64} {X : Nat → Int32} {Q : Int32 → Int64 → pm_H → Prop} (hI : pm_inv X b I J) (hL : L ≤ 576) (hp : p + 9 ≤ L) (hQ : ∀ (b' : Bool) (I' : Nat → Nat → Int32) (J' : Nat → Nat → Int64), pm_inv X b' I' J' → pm_wp pm_code pm_meta (d + 42) 317 2180 ([.ref 1, .ref 8, .ref 79, .int (Int32.ofNat p)], [], (pm_Gb L b', I', J')) Q) :
    pm_wp pm_code pm_meta (d + 42) 317 1751 ([.ref 1, .ref 8, .ref 79, .int (Int32.ofNat p)], [], (pm_Gb L b, I, J)) Q := by
  have h1 : I 1 = X := hI.2.2.2.2.2.2.2.2.2.1
  rw [lw_1751]
  refine ⟨lw_in hL hp (by decide), lw_in hL hp (by decide), lw_in hL hp (by decide), lw_in hL hp (by decide), ?_⟩
  rw [h1]
  refine wc_kT (po_owed (d := d + 21) hI) Gb_nx (fun v w H' hk hr => ?_)
  obtain ⟨⟨T, O, nx, sl⟩, I', J'⟩ := H'
  obtain ⟨k1, k2, k3, k4⟩ := hk
  have e79 : T 79 = (0, 11) := k1
  have e1 : T 1 = (1, L) := k2
  have eT : pm_t (pm_t T 79 (0, 11)) 1 (1, L) = T := by rw [pm_t_id e79, pm_t_id e1]
  have eI : I' 1 = X := by funext j; exact (k3 j).trans (by show I 1 j = X j; rw [h1])
  rw [← eT] at hr ⊢
  rw [lx_1775]
  refine ⟨lw_in hL hp (by decide), lw_in hL hp (by decide), lw_in hL hp (by decide), lw_in hL hp (by decide), ?_⟩
  rw [eI]
  obtain ⟨n, v2, w2, H2, g1, g2, I2, J2, g3, g4⟩ := hr
  refine ⟨n, v2, w2, H2, g1, ?_⟩
  rw [g3, g2]
  show pm_wp _ _ _ _ _ _ _
  rw [ly_1799, if_pos rfl]
  exact hQ b I2 J2 g4
theorem lc_46 {d L p : Nat} {b : Bool} {I : Nat → Nat → Int32} {J : Nat → Nat → Int64} {X : Nat → Int32} {Q : Int32 → Int64 → pm_H → Prop} (hI : pm_inv X b I J) (hL : L ≤ 576) (hp : p + 9 ≤ L) (hQ : ∀ (b' : Bool) (I' : Nat → Nat → Int32) (J' : Nat → Nat → Int64), pm_inv X b' I' J' → pm_wp pm_code pm_meta (d + 42) 317 2180 ([.ref 1, .ref 8, .ref 79, .int (Int32.ofNat p)], [], (pm_Gb L b', I', J')) Q) :
    pm_wp pm_code pm_meta (d + 42) 317 1804 ([.ref 1, .ref 8, .ref 79, .int (Int32.ofNat p)], [], (pm_Gb L b, I, J)) Q := by
  have h1 : I 1 = X := hI.2.2.2.2.2.2.2.2.2.1
  rw [lw_1804]
  refine ⟨lw_in hL hp (by decide), ?_⟩
  rw [h1]
  refine wc_kT (po_order (d := d + 21) hI) Gb_nx (fun v w H' hk hr => ?_)
  obtain ⟨⟨T, O, nx, sl⟩, I', J'⟩ := H'
  obtain ⟨k1, k2, k3, k4⟩ := hk
  have e79 : T 79 = (0, 11) := k1
  have e1 : T 1 = (1, L) := k2
  have eT : pm_t (pm_t T 79 (0, 11)) 1 (1, L) = T := by rw [pm_t_id e79, pm_t_id e1]
  have eI : I' 1 = X := by funext j; exact (k3 j).trans (by show I 1 j = X j; rw [h1])
  rw [← eT] at hr ⊢
  rw [lx_1813]
  refine ⟨lw_in hL hp (by decide), ?_⟩
  rw [eI]
  obtain ⟨n, v2, w2, H2, g1, g2, I2, J2, g3, g4⟩ := hr
  refine ⟨n, v2, w2, H2, g1, ?_⟩
  rw [g3, g2]
  show pm_wp _ _ _ _ _ _ _
  rw [ly_1822, if_pos rfl]
  exact hQ b I2 J2 g4
theorem lc_47 {d L p : Nat} {b : Bool} {I : Nat → Nat → Int32} {J : Nat → Nat → Int64} {X : Nat → Int32} {Q : Int32 → Int64 → pm_H → Prop} (hI : pm_inv X b I J) (hL : L ≤ 576) (hp : p + 9 ≤ L) (hQ : ∀ (b' : Bool) (I' : Nat → Nat → Int32) (J' : Nat → Nat → Int64), pm_inv X b' I' J' → pm_wp pm_code pm_meta (d + 42) 317 2180 ([.ref 1, .ref 8, .ref 79, .int (Int32.ofNat p)], [], (pm_Gb L b', I', J')) Q) :
    pm_wp pm_code pm_meta (d + 42) 317 1827 ([.ref 1, .ref 8, .ref 79, .int (Int32.ofNat p)], [], (pm_Gb L b, I, J)) Q := by
  have h1 : I 1 = X := hI.2.2.2.2.2.2.2.2.2.1
  rw [lw_1827]
  refine ⟨lw_in hL hp (by decide), lw_in hL hp (by decide), lw_in hL hp (by decide), ?_⟩
  rw [h1]
  refine wc_kT (po_sheet (d := d + 21) hI) Gb_nx (fun v w H' hk hr => ?_)
  obtain ⟨⟨T, O, nx, sl⟩, I', J'⟩ := H'
  obtain ⟨k1, k2, k3, k4⟩ := hk
  have e79 : T 79 = (0, 11) := k1
  have e1 : T 1 = (1, L) := k2
  have eT : pm_t (pm_t T 79 (0, 11)) 1 (1, L) = T := by rw [pm_t_id e79, pm_t_id e1]
  have eI : I' 1 = X := by funext j; exact (k3 j).trans (by show I 1 j = X j; rw [h1])
  rw [← eT] at hr ⊢
  rw [lx_1846]
  refine ⟨lw_in hL hp (by decide), lw_in hL hp (by decide), lw_in hL hp (by decide), ?_⟩
  rw [eI]
  obtain ⟨n, v2, w2, H2, g1, g2, I2, J2, g3, g4⟩ := hr
  refine ⟨n, v2, w2, H2, g1, ?_⟩
  rw [g3, g2]
  show pm_wp _ _ _ _ _ _ _
  rw [ly_1865, if_pos rfl]
  exact hQ b I2 J2 g4
theorem lc_48 {d L p : Nat} {b : Bool} {I : Nat → Nat → Int32} {J : Nat → Nat → Int64} {X : Nat → Int32} {Q : Int32 → Int64 → pm_H → Prop} (hI : pm_inv X b I J) (hL : L ≤ 576) (hp : p + 9 ≤ L) (hQ : ∀ (b' : Bool) (I' : Nat → Nat → Int32) (J' : Nat → Nat → Int64), pm_inv X b' I' J' → pm_wp pm_code pm_meta (d + 42) 317 2180 ([.ref 1, .ref 8, .ref 79, .int (Int32.ofNat p)], [], (pm_Gb L b', I', J')) Q) :
    pm_wp pm_code pm_meta (d + 42) 317 1870 ([.ref 1, .ref 8, .ref 79, .int (Int32.ofNat p)], [], (pm_Gb L b, I, J)) Q := by
  have h1 : I 1 = X := hI.2.2.2.2.2.2.2.2.2.1
  rw [lw_1870]
  refine ⟨lw_in hL hp (by decide), lw_in hL hp (by decide), lw_in hL hp (by decide), ?_⟩
  rw [h1]
  refine wc_kT (po_put (d := d + 21) hI) Gb_nx (fun v w H' hk hr => ?_)
  obtain ⟨⟨T, O, nx, sl⟩, I', J'⟩ := H'
  obtain ⟨k1, k2, k3, k4⟩ := hk
  have e79 : T 79 = (0, 11) := k1
  have e1 : T 1 = (1, L) := k2
  have eT : pm_t (pm_t T 79 (0, 11)) 1 (1, L) = T := by rw [pm_t_id e79, pm_t_id e1]
  have eI : I' 1 = X := by funext j; exact (k3 j).trans (by show I 1 j = X j; rw [h1])
  rw [← eT] at hr ⊢
  rw [lx_1889]
  refine ⟨lw_in hL hp (by decide), lw_in hL hp (by decide), lw_in hL hp (by decide), ?_⟩
  rw [eI]
  obtain ⟨n, v2, w2, H2, g1, g2, I2, J2, g3, g4⟩ := hr
  refine ⟨n, v2, w2, H2, g1, ?_⟩
  rw [g3, g2]
  show pm_wp _ _ _ _ _ _ _
  rw [ly_1908, if_pos rfl]
  exact hQ b I2 J2 g4
theorem lc_49 {d L p : Nat} {b : Bool} {I : Nat → Nat → Int32} {J : Nat → Nat → Int64} {X : Nat → Int32} {Q : Int32 → Int64 → pm_H → Prop} (hI : pm_inv X b I J) (hL : L ≤ 576) (hp : p + 9 ≤ L) (hQ : ∀ (b' : Bool) (I' : Nat → Nat → Int32) (J' : Nat → Nat → Int64), pm_inv X b' I' J' → pm_wp pm_code pm_meta (d + 42) 317 2180 ([.ref 1, .ref 8, .ref 79, .int (Int32.ofNat p)], [], (pm_Gb L b', I', J')) Q) :
    pm_wp pm_code pm_meta (d + 42) 317 1913 ([.ref 1, .ref 8, .ref 79, .int (Int32.ofNat p)], [], (pm_Gb L b, I, J)) Q := by
  have h1 : I 1 = X := hI.2.2.2.2.2.2.2.2.2.1
  rw [lw_1913]
  refine ⟨lw_in hL hp (by decide), lw_in hL hp (by decide), lw_in hL hp (by decide), ?_⟩
  rw [h1]
  refine wc_kT (po_item (d := d + 21) hI) Gb_nx (fun v w H' hk hr => ?_)
  obtain ⟨⟨T, O, nx, sl⟩, I', J'⟩ := H'
  obtain ⟨k1, k2, k3, k4⟩ := hk
  have e79 : T 79 = (0, 11) := k1
  have e1 : T 1 = (1, L) := k2
  have eT : pm_t (pm_t T 79 (0, 11)) 1 (1, L) = T := by rw [pm_t_id e79, pm_t_id e1]
  have eI : I' 1 = X := by funext j; exact (k3 j).trans (by show I 1 j = X j; rw [h1])
  rw [← eT] at hr ⊢
  rw [lx_1932]
  refine ⟨lw_in hL hp (by decide), lw_in hL hp (by decide), lw_in hL hp (by decide), ?_⟩
  rw [eI]
  obtain ⟨n, v2, w2, H2, g1, g2, I2, J2, g3, g4⟩ := hr
  refine ⟨n, v2, w2, H2, g1, ?_⟩
  rw [g3, g2]
  show pm_wp _ _ _ _ _ _ _
  rw [ly_1951, if_pos rfl]
  exact hQ b I2 J2 g4
theorem lc_50 {d L p : Nat} {b : Bool} {I : Nat → Nat → Int32} {J : Nat → Nat → Int64} {X : Nat → Int32} {Q : Int32 → Int64 → pm_H → Prop} (hI : pm_inv X b I J) (hL : L ≤ 576) (hp : p + 9 ≤ L) (hQ : ∀ (b' : Bool) (I' : Nat → Nat → Int32) (J' : Nat → Nat → Int64), pm_inv X b' I' J' → pm_wp pm_code pm_meta (d + 42) 317 2180 ([.ref 1, .ref 8, .ref 79, .int (Int32.ofNat p)], [], (pm_Gb L b', I', J')) Q) :
    pm_wp pm_code pm_meta (d + 42) 317 1956 ([.ref 1, .ref 8, .ref 79, .int (Int32.ofNat p)], [], (pm_Gb L b, I, J)) Q := by
  have h1 : I 1 = X := hI.2.2.2.2.2.2.2.2.2.1
  rw [lw_1956]
  refine ⟨lw_in hL hp (by decide), lw_in hL hp (by decide), ?_⟩
  rw [h1]
  refine wc_kT (po_comes (d := d + 20) hI) Gb_nx (fun v w H' hk hr => ?_)
  obtain ⟨⟨T, O, nx, sl⟩, I', J'⟩ := H'
  obtain ⟨k1, k2, k3, k4⟩ := hk
  have e79 : T 79 = (0, 11) := k1
  have e1 : T 1 = (1, L) := k2
  have eT : pm_t (pm_t T 79 (0, 11)) 1 (1, L) = T := by rw [pm_t_id e79, pm_t_id e1]
  have eI : I' 1 = X := by funext j; exact (k3 j).trans (by show I 1 j = X j; rw [h1])
  rw [← eT] at hr ⊢
  rw [lx_1970]
  refine ⟨lw_in hL hp (by decide), lw_in hL hp (by decide), ?_⟩
  rw [eI]
  obtain ⟨n, v2, w2, H2, g1, g2, I2, J2, g3, g4⟩ := hr
  refine ⟨n, v2, w2, H2, g1, ?_⟩
  rw [g3, g2]
  show pm_wp _ _ _ _ _ _ _
  rw [ly_1984, if_pos rfl]
  exact hQ b I2 J2 g4
theorem lc_51 {d L p : Nat} {b : Bool} {I : Nat → Nat → Int32} {J : Nat → Nat → Int64} {X : Nat → Int32} {Q : Int32 → Int64 → pm_H → Prop} (hI : pm_inv X b I J) (hL : L ≤ 576) (hp : p + 9 ≤ L) (hQ : ∀ (b' : Bool) (I' : Nat → Nat → Int32) (J' : Nat → Nat → Int64), pm_inv X b' I' J' → pm_wp pm_code pm_meta (d + 42) 317 2180 ([.ref 1, .ref 8, .ref 79, .int (Int32.ofNat p)], [], (pm_Gb L b', I', J')) Q) :
    pm_wp pm_code pm_meta (d + 42) 317 1989 ([.ref 1, .ref 8, .ref 79, .int (Int32.ofNat p)], [], (pm_Gb L b, I, J)) Q := by
  have h1 : I 1 = X := hI.2.2.2.2.2.2.2.2.2.1
  rw [lw_1989]
  refine ⟨lw_in hL hp (by decide), lw_in hL hp (by decide), lw_in hL hp (by decide), ?_⟩
  rw [h1]
  refine wc_kT (po_shelf (d := d + 21) hI) Gb_nx (fun v w H' hk hr => ?_)
  obtain ⟨⟨T, O, nx, sl⟩, I', J'⟩ := H'
  obtain ⟨k1, k2, k3, k4⟩ := hk
  have e79 : T 79 = (0, 11) := k1
  have e1 : T 1 = (1, L) := k2
  have eT : pm_t (pm_t T 79 (0, 11)) 1 (1, L) = T := by rw [pm_t_id e79, pm_t_id e1]
  have eI : I' 1 = X := by funext j; exact (k3 j).trans (by show I 1 j = X j; rw [h1])
  rw [← eT] at hr ⊢
  rw [lx_2008]
  refine ⟨lw_in hL hp (by decide), lw_in hL hp (by decide), lw_in hL hp (by decide), ?_⟩
  rw [eI]
  obtain ⟨n, v2, w2, H2, g1, g2, I2, J2, g3, g4⟩ := hr
  refine ⟨n, v2, w2, H2, g1, ?_⟩
  rw [g3, g2]
  show pm_wp _ _ _ _ _ _ _
  rw [ly_2027, if_pos rfl]
  exact hQ b I2 J2 g4
theorem lc_52 {d L p : Nat} {b : Bool} {I : Nat → Nat → Int32} {J : Nat → Nat → Int64} {X : Nat → Int32} {Q : Int32 → Int64 → pm_H → Prop} (hI : pm_inv X b I J) (hL : L ≤ 576) (hp : p + 9 ≤ L) (hQ : ∀ (b' : Bool) (I' : Nat → Nat → Int32) (J' : Nat → Nat → Int64), pm_inv X b' I' J' → pm_wp pm_code pm_meta (d + 42) 317 2180 ([.ref 1, .ref 8, .ref 79, .int (Int32.ofNat p)], [], (pm_Gb L b', I', J')) Q) :
    pm_wp pm_code pm_meta (d + 42) 317 2032 ([.ref 1, .ref 8, .ref 79, .int (Int32.ofNat p)], [], (pm_Gb L b, I, J)) Q := by
  have h1 : I 1 = X := hI.2.2.2.2.2.2.2.2.2.1
  rw [lw_2032]
  refine ⟨lw_in hL hp (by decide), lw_in hL hp (by decide), ?_⟩
  rw [h1]
  refine wc_kT (po_taken (d := d + 21) hI) Gb_nx (fun v w H' hk hr => ?_)
  obtain ⟨⟨T, O, nx, sl⟩, I', J'⟩ := H'
  obtain ⟨k1, k2, k3, k4⟩ := hk
  have e79 : T 79 = (0, 11) := k1
  have e1 : T 1 = (1, L) := k2
  have eT : pm_t (pm_t T 79 (0, 11)) 1 (1, L) = T := by rw [pm_t_id e79, pm_t_id e1]
  have eI : I' 1 = X := by funext j; exact (k3 j).trans (by show I 1 j = X j; rw [h1])
  rw [← eT] at hr ⊢
  rw [lx_2046]
  refine ⟨lw_in hL hp (by decide), lw_in hL hp (by decide), ?_⟩
  rw [eI]
  obtain ⟨n, v2, w2, H2, g1, g2, I2, J2, g3, g4⟩ := hr
  refine ⟨n, v2, w2, H2, g1, ?_⟩
  rw [g3, g2]
  show pm_wp _ _ _ _ _ _ _
  rw [ly_2060, if_pos rfl]
  exact hQ b I2 J2 g4
theorem lc_53 {d L p : Nat} {b : Bool} {I : Nat → Nat → Int32} {J : Nat → Nat → Int64} {X : Nat → Int32} {Q : Int32 → Int64 → pm_H → Prop} (hI : pm_inv X b I J) (hL : L ≤ 576) (hp : p + 9 ≤ L) (hQ : ∀ (b' : Bool) (I' : Nat → Nat → Int32) (J' : Nat → Nat → Int64), pm_inv X b' I' J' → pm_wp pm_code pm_meta (d + 42) 317 2180 ([.ref 1, .ref 8, .ref 79, .int (Int32.ofNat p)], [], (pm_Gb L b', I', J')) Q) :
    pm_wp pm_code pm_meta (d + 42) 317 2065 ([.ref 1, .ref 8, .ref 79, .int (Int32.ofNat p)], [], (pm_Gb L b, I, J)) Q := by
  have h1 : I 1 = X := hI.2.2.2.2.2.2.2.2.2.1
  rw [lw_2065]
  refine ⟨lw_in hL hp (by decide), lw_in hL hp (by decide), lw_in hL hp (by decide), ?_⟩
  rw [h1]
  refine wc_kT (po_deal (d := d + 21) hI) Gb_nx (fun v w H' hk hr => ?_)
  obtain ⟨⟨T, O, nx, sl⟩, I', J'⟩ := H'
  obtain ⟨k1, k2, k3, k4⟩ := hk
  have e79 : T 79 = (0, 11) := k1
  have e1 : T 1 = (1, L) := k2
  have eT : pm_t (pm_t T 79 (0, 11)) 1 (1, L) = T := by rw [pm_t_id e79, pm_t_id e1]
  have eI : I' 1 = X := by funext j; exact (k3 j).trans (by show I 1 j = X j; rw [h1])
  rw [← eT] at hr ⊢
  rw [lx_2084]
  refine ⟨lw_in hL hp (by decide), lw_in hL hp (by decide), lw_in hL hp (by decide), ?_⟩
  rw [eI]
  obtain ⟨n, v2, w2, H2, g1, g2, I2, J2, g3, g4⟩ := hr
  refine ⟨n, v2, w2, H2, g1, ?_⟩
  rw [g3, g2]
  show pm_wp _ _ _ _ _ _ _
  rw [ly_2103, if_pos rfl]
  exact hQ b I2 J2 g4
theorem lc_54 {d L p : Nat} {b : Bool} {I : Nat → Nat → Int32} {J : Nat → Nat → Int64} {X : Nat → Int32} {Q : Int32 → Int64 → pm_H → Prop} (hI : pm_inv X b I J) (hL : L ≤ 576) (hp : p + 9 ≤ L) (hQ : ∀ (b' : Bool) (I' : Nat → Nat → Int32) (J' : Nat → Nat → Int64), pm_inv X b' I' J' → pm_wp pm_code pm_meta (d + 42) 317 2180 ([.ref 1, .ref 8, .ref 79, .int (Int32.ofNat p)], [], (pm_Gb L b', I', J')) Q) :
    pm_wp pm_code pm_meta (d + 42) 317 2108 ([.ref 1, .ref 8, .ref 79, .int (Int32.ofNat p)], [], (pm_Gb L b, I, J)) Q := by
  have h1 : I 1 = X := hI.2.2.2.2.2.2.2.2.2.1
  rw [lw_2108]
  refine ⟨lw_in hL hp (by decide), ?_⟩
  rw [h1]
  refine wc_kT (po_trace (d := d + 21) hI) Gb_nx (fun v w H' hk hr => ?_)
  obtain ⟨⟨T, O, nx, sl⟩, I', J'⟩ := H'
  obtain ⟨k1, k2, k3, k4⟩ := hk
  have e79 : T 79 = (0, 11) := k1
  have e1 : T 1 = (1, L) := k2
  have eT : pm_t (pm_t T 79 (0, 11)) 1 (1, L) = T := by rw [pm_t_id e79, pm_t_id e1]
  have eI : I' 1 = X := by funext j; exact (k3 j).trans (by show I 1 j = X j; rw [h1])
  rw [← eT] at hr ⊢
  rw [lx_2117]
  refine ⟨lw_in hL hp (by decide), ?_⟩
  rw [eI]
  obtain ⟨n, v2, w2, H2, g1, g2, I2, J2, g3, g4⟩ := hr
  refine ⟨n, v2, w2, H2, g1, ?_⟩
  rw [g3, g2]
  show pm_wp _ _ _ _ _ _ _
  rw [ly_2126, if_pos rfl]
  exact hQ b I2 J2 g4
theorem lc_55 {d L p : Nat} {b : Bool} {I : Nat → Nat → Int32} {J : Nat → Nat → Int64} {X : Nat → Int32} {Q : Int32 → Int64 → pm_H → Prop} (hI : pm_inv X b I J) (hL : L ≤ 576) (hp : p + 9 ≤ L) (hQ : ∀ (b' : Bool) (I' : Nat → Nat → Int32) (J' : Nat → Nat → Int64), pm_inv X b' I' J' → pm_wp pm_code pm_meta (d + 42) 317 2180 ([.ref 1, .ref 8, .ref 79, .int (Int32.ofNat p)], [], (pm_Gb L b', I', J')) Q) :
    pm_wp pm_code pm_meta (d + 42) 317 2131 ([.ref 1, .ref 8, .ref 79, .int (Int32.ofNat p)], [], (pm_Gb L b, I, J)) Q := by
  have h1 : I 1 = X := hI.2.2.2.2.2.2.2.2.2.1
  rw [lw_2131]
  refine ⟨lw_in hL hp (by decide), ?_⟩
  rw [h1]
  refine wc_kT (po_many (d := d + 21) hI) Gb_nx (fun v w H' hk hr => ?_)
  obtain ⟨⟨T, O, nx, sl⟩, I', J'⟩ := H'
  obtain ⟨k1, k2, k3, k4⟩ := hk
  have e79 : T 79 = (0, 11) := k1
  have e1 : T 1 = (1, L) := k2
  have eT : pm_t (pm_t T 79 (0, 11)) 1 (1, L) = T := by rw [pm_t_id e79, pm_t_id e1]
  have eI : I' 1 = X := by funext j; exact (k3 j).trans (by show I 1 j = X j; rw [h1])
  rw [← eT] at hr ⊢
  rw [lx_2140]
  refine ⟨lw_in hL hp (by decide), ?_⟩
  rw [eI]
  obtain ⟨n, v2, w2, H2, g1, g2, I2, J2, g3, g4⟩ := hr
  refine ⟨n, v2, w2, H2, g1, ?_⟩
  rw [g3, g2]
  show pm_wp _ _ _ _ _ _ _
  rw [ly_2149, if_pos rfl]
  exact hQ b I2 J2 g4
theorem lc_56 {d L p : Nat} {b : Bool} {I : Nat → Nat → Int32} {J : Nat → Nat → Int64} {X : Nat → Int32} {Q : Int32 → Int64 → pm_H → Prop} (hI : pm_inv X b I J) (hL : L ≤ 576) (hp : p + 9 ≤ L) (hQ : ∀ (b' : Bool) (I' : Nat → Nat → Int32) (J' : Nat → Nat → Int64), pm_inv X b' I' J' → pm_wp pm_code pm_meta (d + 42) 317 2180 ([.ref 1, .ref 8, .ref 79, .int (Int32.ofNat p)], [], (pm_Gb L b', I', J')) Q) :
    pm_wp pm_code pm_meta (d + 42) 317 2154 ([.ref 1, .ref 8, .ref 79, .int (Int32.ofNat p)], [], (pm_Gb L b, I, J)) Q := by
  have h1 : I 1 = X := hI.2.2.2.2.2.2.2.2.2.1
  rw [lw_2154]
  refine wc_kT (po_keep (d := d + 21) hI) Gb_nx (fun v w H' hk hr => ?_)
  obtain ⟨⟨T, O, nx, sl⟩, I', J'⟩ := H'
  obtain ⟨k1, k2, k3, k4⟩ := hk
  have e79 : T 79 = (0, 11) := k1
  have e1 : T 1 = (1, L) := k2
  have eT : pm_t (pm_t T 79 (0, 11)) 1 (1, L) = T := by rw [pm_t_id e79, pm_t_id e1]
  have eI : I' 1 = X := by funext j; exact (k3 j).trans (by show I 1 j = X j; rw [h1])
  rw [← eT] at hr ⊢
  rw [lx_2158]
  obtain ⟨n, v2, w2, H2, g1, g2, I2, J2, g3, g4⟩ := hr
  refine ⟨n, v2, w2, H2, g1, ?_⟩
  rw [g3, g2]
  show pm_wp _ _ _ _ _ _ _
  rw [ly_2162, if_pos rfl]
  exact hQ true I2 J2 g4
theorem lc_57 {d L p : Nat} {b : Bool} {I : Nat → Nat → Int32} {J : Nat → Nat → Int64} {X : Nat → Int32} {Q : Int32 → Int64 → pm_H → Prop} (hI : pm_inv X b I J) (hL : L ≤ 576) (hp : p + 9 ≤ L) (hQ : ∀ (b' : Bool) (I' : Nat → Nat → Int32) (J' : Nat → Nat → Int64), pm_inv X b' I' J' → pm_wp pm_code pm_meta (d + 42) 317 2180 ([.ref 1, .ref 8, .ref 79, .int (Int32.ofNat p)], [], (pm_Gb L b', I', J')) Q) :
    pm_wp pm_code pm_meta (d + 42) 317 2167 ([.ref 1, .ref 8, .ref 79, .int (Int32.ofNat p)], [], (pm_Gb L b, I, J)) Q := by
  have h1 : I 1 = X := hI.2.2.2.2.2.2.2.2.2.1
  rw [lw_2167]
  refine wc_kT (po_again (d := d + 21) hI) Gb_nx (fun v w H' hk hr => ?_)
  obtain ⟨⟨T, O, nx, sl⟩, I', J'⟩ := H'
  obtain ⟨k1, k2, k3, k4⟩ := hk
  have e79 : T 79 = (0, 11) := k1
  have e1 : T 1 = (1, L) := k2
  have eT : pm_t (pm_t T 79 (0, 11)) 1 (1, L) = T := by rw [pm_t_id e79, pm_t_id e1]
  have eI : I' 1 = X := by funext j; exact (k3 j).trans (by show I 1 j = X j; rw [h1])
  rw [← eT] at hr ⊢
  rw [lx_2171]
  obtain ⟨n, v2, w2, H2, g1, g2, I2, J2, g3, g4⟩ := hr
  refine ⟨n, v2, w2, H2, g1, ?_⟩
  rw [g3, g2]
  show pm_wp _ _ _ _ _ _ _
  rw [ly_2175, if_pos rfl]
  exact hQ b I2 J2 g4
theorem law_loop {d L : Nat} {X : Nat → Int32} {Q : Int32 → Int64 → pm_H → Prop} (hL : L ≤ 576) (hread : ∀ {d : Nat} {b : Bool} {I : Nat → Nat → Int32} {J : Nat → Nat → Int64} {x1 : Int32}, pm_inv X b I J → pm_wc pm_code pm_meta (d + 40) 133 [.ref 8, .int x1] (pm_Gb L b, I, J) (fun v _ H => pm_wc pm_code pm_meta (d + 40) 233 [.ref 79, .int x1] H (pm_ok X L b v))) (hQ : ∀ b I J, Q 1 0 (pm_Gb L b, I, J)) :
    ∀ (m p : Nat) (b : Bool) (I : Nat → Nat → Int32) (J : Nat → Nat → Int64), L < p + m → p ≤ L + 9 → pm_inv X b I J → pm_wp pm_code pm_meta (d + 42) 317 18 ([.ref 1, .ref 8, .ref 79, .int (Int32.ofNat p)], [], (pm_Gb L b, I, J)) Q := by
  have e9 : (9 : Int32).toInt = 9 := rfl
  intro m
  induction m with
  | zero =>
    intro p b I J hm hp hI
    have gL := (on_n (a := L) (by omega)).2.2
    have gp := (on_n (a := p) (by omega)).2.2
    rw [lw_18, if_pos (by rw [pi_lt, pi_sub (by rw [gL, e9]; omega) (by rw [gL, e9]; omega), gL, gp, e9]; omega), lw_2186]
    exact hQ b I J
  | succ m ih =>
    intro p b I J hm hp hI
    have gL := (on_n (a := L) (by omega)).2.2
    have gp := on_n (a := p) (by omega)
    by_cases c : L < p + 9
    · rw [lw_18, if_pos (by rw [pi_lt, pi_sub (by rw [gL, e9]; omega) (by rw [gL, e9]; omega), gL, gp.2.2, e9]; omega), lw_2186]
      exact hQ b I J
    · rw [lw_18, if_neg (by rw [pi_lt, pi_sub (by rw [gL, e9]; omega) (by rw [gL, e9]; omega), gL, gp.2.2, e9]; omega), lw_27]
      have nxt : ∀ (b' : Bool) (I' : Nat → Nat → Int32) (J' : Nat → Nat → Int64), pm_inv X b' I' J' → pm_wp pm_code pm_meta (d + 42) 317 2180 ([.ref 1, .ref 8, .ref 79, .int (Int32.ofNat p)], [], (pm_Gb L b', I', J')) Q := fun b' I' J' hI' => by
        have z := ih (p + 9) b' I' J' (by omega) (by omega) hI'
        rw [lw_2180, show (9 : Int32) = Int32.ofNat 9 from rfl, hb_add _ _ (by omega) (by omega)]
        exact z
      have hp9 : p + 9 ≤ L := by omega
      refine ⟨pi_in gp.1 (by rw [gp.2.2]; omega), ?_⟩
      generalize (I 1 (Int32.ofNat p).toNatClampNeg) &&& 63 = z
      by_cases c0 : z = 0
      · rw [if_pos c0]; exact lc_0 hI hL hp9 nxt
      rw [if_neg c0]
      by_cases c1 : z = 1
      · rw [if_pos c1]; exact lc_1 hI hL hp9 nxt
      rw [if_neg c1]
      by_cases c2 : z = 2
      · rw [if_pos c2]; exact lc_2 hI hL hp9 nxt
      rw [if_neg c2]
      by_cases c3 : z = 3
      · rw [if_pos c3]; exact lc_3 hI hL hp9 nxt
      rw [if_neg c3]
      by_cases c4 : z = 4
      · rw [if_pos c4]; exact lc_4 hI hL hp9 nxt
      rw [if_neg c4]
      by_cases c5 : z = 5
      · rw [if_pos c5]; exact lc_5 hI hL hp9 nxt
      rw [if_neg c5]
      by_cases c6 : z = 6
      · rw [if_pos c6]; exact lc_6 hI hL hp9 nxt
      rw [if_neg c6]
      by_cases c7 : z = 7
      · rw [if_pos c7]; exact lc_7 hI hL hp9 nxt
      rw [if_neg c7]
      by_cases c8 : z = 8
      · rw [if_pos c8]; exact lc_8 hI hL hp9 nxt
      rw [if_neg c8]
      by_cases c9 : z = 9
      · rw [if_pos c9]; exact lc_9 hI hL hp9 nxt
      rw [if_neg c9]
      by_cases c10 : z = 10
      · rw [if_pos c10]; exact lc_10 hI hL hp9 nxt
      rw [if_neg c10]
      by_cases c11 : z = 11
      · rw [if_pos c11]; exact lc_11 hI hL hp9 nxt
      rw [if_neg c11]
      by_cases c12 : z = 12
      · rw [if_pos c12]; exact lc_12 hI hL hp9 nxt
      rw [if_neg c12]
      by_cases c13 : z = 13
      · rw [if_pos c13]; exact lc_13 hI hL hp9 nxt
      rw [if_neg c13]
      by_cases c14 : z = 14
      · rw [if_pos c14]; exact lc_14 hI hL hp9 nxt
      rw [if_neg c14]
      by_cases c15 : z = 15
      · rw [if_pos c15]; exact lc_15 hI hL hp9 nxt
      rw [if_neg c15]
      by_cases c16 : z = 16
      · rw [if_pos c16]; exact lc_16 hI hL hp9 nxt
      rw [if_neg c16]
      by_cases c17 : z = 17
      · rw [if_pos c17]; exact lc_17 hI hL hp9 hread nxt
      rw [if_neg c17]
      by_cases c18 : z = 18
      · rw [if_pos c18]; exact lc_18 hI hL hp9 nxt
      rw [if_neg c18]
      by_cases c19 : z = 19
      · rw [if_pos c19]; exact lc_19 hI hL hp9 nxt
      rw [if_neg c19]
      by_cases c20 : z = 20
      · rw [if_pos c20]; exact lc_20 hI hL hp9 nxt
      rw [if_neg c20]
      by_cases c21 : z = 21
      · rw [if_pos c21]; exact lc_21 hI hL hp9 nxt
      rw [if_neg c21]
      by_cases c22 : z = 22
      · rw [if_pos c22]; exact lc_22 hI hL hp9 nxt
      rw [if_neg c22]
      by_cases c23 : z = 23
      · rw [if_pos c23]; exact lc_23 hI hL hp9 nxt
      rw [if_neg c23]
      by_cases c24 : z = 24
      · rw [if_pos c24]; exact lc_24 hI hL hp9 nxt
      rw [if_neg c24]
      by_cases c25 : z = 25
      · rw [if_pos c25]; exact lc_25 hI hL hp9 nxt
      rw [if_neg c25]
      by_cases c26 : z = 26
      · rw [if_pos c26]; exact lc_26 hI hL hp9 nxt
      rw [if_neg c26]
      by_cases c27 : z = 27
      · rw [if_pos c27]; exact lc_27 hI hL hp9 nxt
      rw [if_neg c27]
      by_cases c28 : z = 28
      · rw [if_pos c28]; exact lc_28 hI hL hp9 nxt
      rw [if_neg c28]
      by_cases c29 : z = 29
      · rw [if_pos c29]; exact lc_29 hI hL hp9 nxt
      rw [if_neg c29]
      by_cases c30 : z = 30
      · rw [if_pos c30]; exact lc_30 hI hL hp9 nxt
      rw [if_neg c30]
      by_cases c31 : z = 31
      · rw [if_pos c31]; exact lc_31 hI hL hp9 nxt
      rw [if_neg c31]
      by_cases c32 : z = 32
      · rw [if_pos c32]; exact lc_32 hI hL hp9 nxt
      rw [if_neg c32]
      by_cases c33 : z = 33
      · rw [if_pos c33]; exact lc_33 hI hL hp9 nxt
      rw [if_neg c33]
      by_cases c34 : z = 34
      · rw [if_pos c34]; exact lc_34 hI hL hp9 nxt
      rw [if_neg c34]
      by_cases c35 : z = 35
      · rw [if_pos c35]; exact lc_35 hI hL hp9 nxt
      rw [if_neg c35]
      by_cases c36 : z = 36
      · rw [if_pos c36]; exact lc_36 hI hL hp9 nxt
      rw [if_neg c36]
      by_cases c37 : z = 37
      · rw [if_pos c37]; exact lc_37 hI hL hp9 nxt
      rw [if_neg c37]
      by_cases c38 : z = 38
      · rw [if_pos c38]; exact lc_38 hI hL hp9 nxt
      rw [if_neg c38]
      by_cases c39 : z = 39
      · rw [if_pos c39]; exact lc_39 hI hL hp9 nxt
      rw [if_neg c39]
      by_cases c40 : z = 40
      · rw [if_pos c40]; exact lc_40 hI hL hp9 nxt
      rw [if_neg c40]
      by_cases c41 : z = 41
      · rw [if_pos c41]; exact lc_41 hI hL hp9 nxt
      rw [if_neg c41]
      by_cases c42 : z = 42
      · rw [if_pos c42]; exact lc_42 hI hL hp9 nxt
      rw [if_neg c42]
      by_cases c43 : z = 43
      · rw [if_pos c43]; exact lc_43 hI hL hp9 nxt
      rw [if_neg c43]
      by_cases c44 : z = 44
      · rw [if_pos c44]; exact lc_44 hI hL hp9 nxt
      rw [if_neg c44]
      by_cases c45 : z = 45
      · rw [if_pos c45]; exact lc_45 hI hL hp9 nxt
      rw [if_neg c45]
      by_cases c46 : z = 46
      · rw [if_pos c46]; exact lc_46 hI hL hp9 nxt
      rw [if_neg c46]
      by_cases c47 : z = 47
      · rw [if_pos c47]; exact lc_47 hI hL hp9 nxt
      rw [if_neg c47]
      by_cases c48 : z = 48
      · rw [if_pos c48]; exact lc_48 hI hL hp9 nxt
      rw [if_neg c48]
      by_cases c49 : z = 49
      · rw [if_pos c49]; exact lc_49 hI hL hp9 nxt
      rw [if_neg c49]
      by_cases c50 : z = 50
      · rw [if_pos c50]; exact lc_50 hI hL hp9 nxt
      rw [if_neg c50]
      by_cases c51 : z = 51
      · rw [if_pos c51]; exact lc_51 hI hL hp9 nxt
      rw [if_neg c51]
      by_cases c52 : z = 52
      · rw [if_pos c52]; exact lc_52 hI hL hp9 nxt
      rw [if_neg c52]
      by_cases c53 : z = 53
      · rw [if_pos c53]; exact lc_53 hI hL hp9 nxt
      rw [if_neg c53]
      by_cases c54 : z = 54
      · rw [if_pos c54]; exact lc_54 hI hL hp9 nxt
      rw [if_neg c54]
      by_cases c55 : z = 55
      · rw [if_pos c55]; exact lc_55 hI hL hp9 nxt
      rw [if_neg c55]
      by_cases c56 : z = 56
      · rw [if_pos c56]; exact lc_56 hI hL hp9 nxt
      rw [if_neg c56]
      by_cases c57 : z = 57
      · rw [if_pos c57]; exact lc_57 hI hL hp9 nxt
      rw [if_neg c57]
      exact nxt b I J hI

