/-! OreRailwayModel.moves(I)V -/
def rm5_moves : Room := { frames := 3, cells := 0, slots := 0, locals := 69 }
def f5_moves_416 (v1 : Nat → Int32) : Option ((Nat → Int32)) := some (v1)
set_option maxRecDepth 100000 in
set_option maxHeartbeats 4000000 in
theorem w5_moves_416 {p : Program} {l : Launch} {e : Env} {s : State} {m : MethodId} {args : Array Value} {below : List Frame} {meth : Method} {c : Code} {D : va_G} {cI cZ : ClassId} {ad : Nat → Nat} {v0 v1 v2 v3 v4 v5 v6 v7 v8 : Nat → Int32} (X : mX D cI cZ p s m args meth c cX5_moves 7 none) (hI : mInj ad) {t : (Nat → Int32)}  {H : Heap} {locs : List Loc} (hH : mH D cI cZ ad v0 v1 v2 v3 v4 v5 v6 v7 v8 s H locs) {ls : Array Slot} (hl : lv_has ls 7 []) (hf : f5_moves_416 v1 = some t) : W p l e rm5_moves s m args below meth c H locs 0 0 (MQ below (va_Qv (fun (_ : Unit) => True) (fun _ t9 => mB D cI cZ ad v0 t v2 v3 v4 v5 v6 v7 v8 t9) (mA ad s.heap.size)) args s 0 0 (mA ad s.heap.size)) (F0 m 416 ls []) := by
  obtain ⟨⟨hx, hb, hml, hown, hts⟩, hr, hlk, hK⟩ := id X
  replace hf : (some (v1)) = some t := hf
  obtain rfl := so_i hf
  exact mr_vw X hH rfl dX5_moves_416
def f5_moves_402 (x1 : Int32) (x3 : Int32) (x4 : Int32) (v1 : Nat → Int32) : Option ((Nat → Int32)) := if x4 < 300 then (f5_moves_416 v1) else (Option.bind (f5_arrives_0 x1 x3 v1) (fun t2 => f5_moves_416 t2))
set_option maxRecDepth 100000 in
set_option maxHeartbeats 4000000 in
theorem w5_moves_402 {p : Program} {l : Launch} {e : Env} {s : State} {m : MethodId} {args : Array Value} {below : List Frame} {meth : Method} {c : Code} {D : va_G} {cI cZ : ClassId} {ad : Nat → Nat} {v0 v1 v2 v3 v4 v5 v6 v7 v8 : Nat → Int32} (X : mX D cI cZ p s m args meth c cX5_moves 7 none) (hI : mInj ad) {x1 : Int32} {x3 : Int32} {x4 : Int32} {t : (Nat → Int32)}  {H : Heap} {locs : List Loc} (hH : mH D cI cZ ad v0 v1 v2 v3 v4 v5 v6 v7 v8 s H locs) {ls : Array Slot} (hl : lv_has ls 7 [(0, .ref (ad 0)), (1, .int x1), (3, .int x3), (4, .int x4)]) (hf : f5_moves_402 x1 x3 x4 v1 = some t) : W p l e rm5_moves s m args below meth c H locs 0 0 (MQ below (va_Qv (fun (_ : Unit) => True) (fun _ t9 => mB D cI cZ ad v0 t v2 v3 v4 v5 v6 v7 v8 t9) (mA ad s.heap.size)) args s 0 0 (mA ad s.heap.size)) (F0 m 402 ls []) := by
  obtain ⟨⟨hx, hb, hml, hown, hts⟩, hr, hlk, hK⟩ := id X
  replace hf : (if x4 < 300 then (f5_moves_416 v1) else (Option.bind (f5_arrives_0 x1 x3 v1) (fun t2 => f5_moves_416 t2))) = some t := hf
  refine lv_iload hx hb dX5_moves_402 (lv_at hl 3 rfl) ?_
  refine lv_sipush (v := 300) hx hb dX5_moves_404 (by decide) ?_
  refine lv_icmp_lt (tgt := 416) hx hb dX5_moves_407 (by decide) (fun c1 => ?_) (fun c1 => ?_)
  · have hf := it_t c1 hf
    exact w5_moves_416 X hI hH (lv_sub hl [] rfl) hf
  · have hf := it_f c1 hf
    refine lv_aload_n hx hb dX5_moves_410 rfl (lv_at hl 0 rfl) ?_
    refine lv_iload_n hx hb dX5_moves_411 rfl (lv_at hl 1 rfl) ?_
    refine lv_iload_n hx hb dX5_moves_412 rfl (lv_at hl 2 rfl) ?_
    obtain ⟨t2, ht2, hf⟩ := bd_o hf
    refine k5_arrives X hI hH hl.1 qX5_124 ⟨Nat.le_of_ble_eq_true rfl, Nat.le_of_ble_eq_true rfl⟩ ht2 (Nat.le_of_ble_eq_true rfl) dX5_moves_413 ⟨Nat.zero_le _, Nat.zero_le _⟩ (fun H locs hH => ?_)
    exact w5_moves_416 X hI hH (lv_sub hl [] rfl) hf
def f5_moves_396 (K300 : Int32 → Int32 → Int32 → Int32 → (Nat → Int32) → (Option ((Nat → Int32)))) (x1 : Int32) (x3 : Int32) (x4 : Int32) (x6 : Int32) (v1 : Nat → Int32) : Option ((Nat → Int32)) := K300 x1 x3 x4 (x6 + 1) v1
set_option maxRecDepth 100000 in
set_option maxHeartbeats 4000000 in
theorem w5_moves_396 {p : Program} {l : Launch} {e : Env} {s : State} {m : MethodId} {args : Array Value} {below : List Frame} {meth : Method} {c : Code} {D : va_G} {cI cZ : ClassId} {ad : Nat → Nat} {v0 v1 v2 v3 v4 v5 v6 v7 v8 : Nat → Int32} (X : mX D cI cZ p s m args meth c cX5_moves 7 none) (hI : mInj ad) {x1 : Int32} {x3 : Int32} {x4 : Int32} {x6 : Int32} {t : (Nat → Int32)} {K300 : Int32 → Int32 → Int32 → Int32 → (Nat → Int32) → (Option ((Nat → Int32)))} (hK300 : ∀ (x1 : Int32) (x3 : Int32) (x4 : Int32) (x6 : Int32) (v1 : Nat → Int32) (H : Heap) (locs : List Loc), mH D cI cZ ad v0 v1 v2 v3 v4 v5 v6 v7 v8 s H locs → ∀ (ls : Array Slot), lv_has ls 7 [(0, .ref (ad 0)), (1, .int x1), (3, .int x3), (4, .int x4), (6, .int x6)] → K300 x1 x3 x4 x6 v1 = some t → W p l e rm5_moves s m args below meth c H locs 0 0 (MQ below (va_Qv (fun (_ : Unit) => True) (fun _ t9 => mB D cI cZ ad v0 t v2 v3 v4 v5 v6 v7 v8 t9) (mA ad s.heap.size)) args s 0 0 (mA ad s.heap.size)) (F0 m 300 ls []))  {H : Heap} {locs : List Loc} (hH : mH D cI cZ ad v0 v1 v2 v3 v4 v5 v6 v7 v8 s H locs) {ls : Array Slot} (hl : lv_has ls 7 [(0, .ref (ad 0)), (1, .int x1), (3, .int x3), (4, .int x4), (6, .int x6)]) (hf : f5_moves_396 K300 x1 x3 x4 x6 v1 = some t) : W p l e rm5_moves s m args below meth c H locs 0 0 (MQ below (va_Qv (fun (_ : Unit) => True) (fun _ t9 => mB D cI cZ ad v0 t v2 v3 v4 v5 v6 v7 v8 t9) (mA ad s.heap.size)) args s 0 0 (mA ad s.heap.size)) (F0 m 396 ls []) := by
  obtain ⟨⟨hx, hb, hml, hown, hts⟩, hr, hlk, hK⟩ := id X
  replace hf : (K300 x1 x3 x4 (x6 + 1) v1) = some t := hf
  refine lv_iinc (v := x6 + 1) (lv' := [(6, .int (x6 + 1)), (0, .ref (ad 0)), (1, .int x1), (3, .int x3), (4, .int x4)]) hx hb dX5_moves_396 hl (k := 4) rfl rfl (by decide) rfl (fun ls hl => ?_)
  refine lv_goto (tgt := 300) hx hb dX5_moves_399 (by decide) ?_
  exact hK300 _ _ _ _ _ _ _ hH _ (lv_sub hl [1, 2, 3, 4, 0] rfl) hf
def f5_moves_395 (v1 : Nat → Int32) : Option ((Nat → Int32)) := some (v1)
set_option maxRecDepth 100000 in
set_option maxHeartbeats 4000000 in
theorem w5_moves_395 {p : Program} {l : Launch} {e : Env} {s : State} {m : MethodId} {args : Array Value} {below : List Frame} {meth : Method} {c : Code} {D : va_G} {cI cZ : ClassId} {ad : Nat → Nat} {v0 v1 v2 v3 v4 v5 v6 v7 v8 : Nat → Int32} (X : mX D cI cZ p s m args meth c cX5_moves 7 none) (hI : mInj ad) {t : (Nat → Int32)}  {H : Heap} {locs : List Loc} (hH : mH D cI cZ ad v0 v1 v2 v3 v4 v5 v6 v7 v8 s H locs) {ls : Array Slot} (hl : lv_has ls 7 []) (hf : f5_moves_395 v1 = some t) : W p l e rm5_moves s m args below meth c H locs 0 0 (MQ below (va_Qv (fun (_ : Unit) => True) (fun _ t9 => mB D cI cZ ad v0 t v2 v3 v4 v5 v6 v7 v8 t9) (mA ad s.heap.size)) args s 0 0 (mA ad s.heap.size)) (F0 m 395 ls []) := by
  obtain ⟨⟨hx, hb, hml, hown, hts⟩, hr, hlk, hK⟩ := id X
  replace hf : (some (v1)) = some t := hf
  obtain rfl := so_i hf
  exact mr_vw X hH rfl dX5_moves_395
def f5_moves_381 (x6 : Int32) (v1 : Nat → Int32) : Option ((Nat → Int32)) := gd (60 + x6) 171 (gd (60 + x6) 171 (f5_moves_395 (upd v1 (Int32.toNatClampNeg (60 + x6)) ((v1 (Int32.toNatClampNeg (60 + x6))) + 1))))
set_option maxRecDepth 100000 in
set_option maxHeartbeats 4000000 in
theorem w5_moves_381 {p : Program} {l : Launch} {e : Env} {s : State} {m : MethodId} {args : Array Value} {below : List Frame} {meth : Method} {c : Code} {D : va_G} {cI cZ : ClassId} {ad : Nat → Nat} {v0 v1 v2 v3 v4 v5 v6 v7 v8 : Nat → Int32} (X : mX D cI cZ p s m args meth c cX5_moves 7 none) (hI : mInj ad) {x6 : Int32} {t : (Nat → Int32)}  {H : Heap} {locs : List Loc} (hH : mH D cI cZ ad v0 v1 v2 v3 v4 v5 v6 v7 v8 s H locs) {ls : Array Slot} (hl : lv_has ls 7 [(0, .ref (ad 0)), (6, .int x6)]) (hf : f5_moves_381 x6 v1 = some t) : W p l e rm5_moves s m args below meth c H locs 0 0 (MQ below (va_Qv (fun (_ : Unit) => True) (fun _ t9 => mB D cI cZ ad v0 t v2 v3 v4 v5 v6 v7 v8 t9) (mA ad s.heap.size)) args s 0 0 (mA ad s.heap.size)) (F0 m 381 ls []) := by
  obtain ⟨⟨hx, hb, hml, hown, hts⟩, hr, hlk, hK⟩ := id X
  replace hf : (gd (60 + x6) 171 (gd (60 + x6) 171 (f5_moves_395 (upd v1 (Int32.toNatClampNeg (60 + x6)) ((v1 (Int32.toNatClampNeg (60 + x6))) + 1))))) = some t := hf
  refine lv_aload_n hx hb dX5_moves_381 rfl (lv_at hl 0 rfl) ?_
  refine mr_get X hH.1 (k := 0) (v := .ref (ad 1)) (by decide) gfX5_7 rfl dX5_moves_382 ?_
  refine lv_bipush (v := 60) hx hb dX5_moves_385 (by decide) ?_
  refine lv_iload hx hb dX5_moves_387 (lv_at hl 1 rfl) ?_
  refine lv_iadd hx hb dX5_moves_389 ?_
  refine lv_dup2_11 hx hb dX5_moves_390 rfl rfl ?_
  obtain ⟨hi1, hf⟩ := gd_o hf
  refine mr_ld1 X hH.1 hi1 dX5_moves_391 ?_
  refine lv_iconst (v := 1) hx hb dX5_moves_392 (by decide) ?_
  refine lv_iadd hx hb dX5_moves_393 ?_
  obtain ⟨hi2, hf⟩ := gd_o hf
  refine mr_st1 X hI hH hi2 dX5_moves_394 (fun H locs hH => ?_)
  exact w5_moves_395 X hI hH (lv_sub hl [] rfl) hf
def f5_moves_300 : Nat → Int32 → Int32 → Int32 → Int32 → (Nat → Int32) → Option ((Nat → Int32))
  | 0, _, _, _, _, _ => none
  | n + 1, x1, x3, x4, x6, v1 => if 30 ≤ x6 then (f5_moves_402 x1 x3 x4 v1) else (if x4 < (10 * x6) then (f5_moves_402 x1 x3 x4 v1) else (gd (30 + x6) 171 (if (v1 (Int32.toNatClampNeg (30 + x6))) ≤ 0 then (f5_moves_396 (f5_moves_300 n) x1 x3 x4 x6 v1) else (gd (30 + x6) 171 (if x3 ≤ (v1 (Int32.toNatClampNeg (30 + x6))) then (f5_moves_396 (f5_moves_300 n) x1 x3 x4 x6 v1) else (gd (e5_of x1 0) 171 (gd (e5_of x1 4) 171 (gd (e5_of x1 3) 171 (f5_moves_381 x6 (upd (upd (upd v1 (Int32.toNatClampNeg (e5_of x1 0)) 3) (Int32.toNatClampNeg (e5_of x1 4)) (10 * x6)) (Int32.toNatClampNeg (e5_of x1 3)) 0))))))))))
set_option maxRecDepth 100000 in
set_option maxHeartbeats 4000000 in
theorem w5_moves_300 {p : Program} {l : Launch} {e : Env} {s : State} {m : MethodId} {args : Array Value} {below : List Frame} {meth : Method} {c : Code} {D : va_G} {cI cZ : ClassId} {ad : Nat → Nat} {v0 v2 v3 v4 v5 v6 v7 v8 : Nat → Int32} (X : mX D cI cZ p s m args meth c cX5_moves 7 none) (hI : mInj ad) {t : (Nat → Int32)} :
    ∀ (n : Nat) (x1 : Int32) (x3 : Int32) (x4 : Int32) (x6 : Int32) (v1 : Nat → Int32) (H : Heap) (locs : List Loc), mH D cI cZ ad v0 v1 v2 v3 v4 v5 v6 v7 v8 s H locs → ∀ (ls : Array Slot), lv_has ls 7 [(0, .ref (ad 0)), (1, .int x1), (3, .int x3), (4, .int x4), (6, .int x6)] → f5_moves_300 n x1 x3 x4 x6 v1 = some t → W p l e rm5_moves s m args below meth c H locs 0 0 (MQ below (va_Qv (fun (_ : Unit) => True) (fun _ t9 => mB D cI cZ ad v0 t v2 v3 v4 v5 v6 v7 v8 t9) (mA ad s.heap.size)) args s 0 0 (mA ad s.heap.size)) (F0 m 300 ls []) := by
  obtain ⟨⟨hx, hb, hml, hown, hts⟩, hr, hlk, hK⟩ := id X
  intro n
  induction n with
  | zero =>
    intro x1 x3 x4 x6 v1 H locs hH ls hl hf
    cases hf
  | succ n ih =>
    intro x1 x3 x4 x6 v1 H locs hH ls hl hf
    replace hf : (if 30 ≤ x6 then (f5_moves_402 x1 x3 x4 v1) else (if x4 < (10 * x6) then (f5_moves_402 x1 x3 x4 v1) else (gd (30 + x6) 171 (if (v1 (Int32.toNatClampNeg (30 + x6))) ≤ 0 then (f5_moves_396 (f5_moves_300 n) x1 x3 x4 x6 v1) else (gd (30 + x6) 171 (if x3 ≤ (v1 (Int32.toNatClampNeg (30 + x6))) then (f5_moves_396 (f5_moves_300 n) x1 x3 x4 x6 v1) else (gd (e5_of x1 0) 171 (gd (e5_of x1 4) 171 (gd (e5_of x1 3) 171 (f5_moves_381 x6 (upd (upd (upd v1 (Int32.toNatClampNeg (e5_of x1 0)) 3) (Int32.toNatClampNeg (e5_of x1 4)) (10 * x6)) (Int32.toNatClampNeg (e5_of x1 3)) 0))))))))))) = some t := hf
    refine lv_iload hx hb dX5_moves_300 (lv_at hl 4 rfl) ?_
    refine lv_bipush (v := 30) hx hb dX5_moves_302 (by decide) ?_
    refine lv_icmp_ge (tgt := 402) hx hb dX5_moves_304 (by decide) (fun c1 => ?_) (fun c1 => ?_)
    · have hf := it_t c1 hf
      exact w5_moves_402 X hI hH (lv_sub hl [0, 1, 2, 3] rfl) hf
    · have hf := it_f c1 hf
      refine lv_bipush (v := 10) hx hb dX5_moves_307 (by decide) ?_
      refine lv_iload hx hb dX5_moves_309 (lv_at hl 4 rfl) ?_
      refine lv_imul hx hb dX5_moves_311 ?_
      refine lv_iload hx hb dX5_moves_312 (lv_at hl 3 rfl) ?_
      refine lv_icmp_gt (tgt := 402) hx hb dX5_moves_314 (by decide) (fun c2 => ?_) (fun c2 => ?_)
      · have hf := it_t c2 hf
        exact w5_moves_402 X hI hH (lv_sub hl [0, 1, 2, 3] rfl) hf
      · have hf := it_f c2 hf
        refine lv_aload_n hx hb dX5_moves_317 rfl (lv_at hl 0 rfl) ?_
        refine mr_get X hH.1 (k := 0) (v := .ref (ad 1)) (by decide) gfX5_7 rfl dX5_moves_318 ?_
        refine lv_bipush (v := 30) hx hb dX5_moves_321 (by decide) ?_
        refine lv_iload hx hb dX5_moves_323 (lv_at hl 4 rfl) ?_
        refine lv_iadd hx hb dX5_moves_325 ?_
        obtain ⟨hi3, hf⟩ := gd_o hf
        refine mr_ld1 X hH.1 hi3 dX5_moves_326 ?_
        refine lv_if_le (tgt := 396) hx hb dX5_moves_327 (by decide) (fun c4 => ?_) (fun c4 => ?_)
        · have hf := it_t c4 hf
          exact w5_moves_396 X hI (K300 := (f5_moves_300 n)) ih hH (lv_sub hl [0, 1, 2, 3, 4] rfl) hf
        · have hf := it_f c4 hf
          refine lv_iload_n hx hb dX5_moves_330 rfl (lv_at hl 2 rfl) ?_
          refine lv_aload_n hx hb dX5_moves_331 rfl (lv_at hl 0 rfl) ?_
          refine mr_get X hH.1 (k := 0) (v := .ref (ad 1)) (by decide) gfX5_7 rfl dX5_moves_332 ?_
          refine lv_bipush (v := 30) hx hb dX5_moves_335 (by decide) ?_
          refine lv_iload hx hb dX5_moves_337 (lv_at hl 4 rfl) ?_
          refine lv_iadd hx hb dX5_moves_339 ?_
          obtain ⟨hi5, hf⟩ := gd_o hf
          refine mr_ld1 X hH.1 hi5 dX5_moves_340 ?_
          refine lv_icmp_le (tgt := 396) hx hb dX5_moves_341 (by decide) (fun c6 => ?_) (fun c6 => ?_)
          · have hf := it_t c6 hf
            exact w5_moves_396 X hI (K300 := (f5_moves_300 n)) ih hH (lv_sub hl [0, 1, 2, 3, 4] rfl) hf
          · have hf := it_f c6 hf
            refine lv_aload_n hx hb dX5_moves_344 rfl (lv_at hl 0 rfl) ?_
            refine mr_get X hH.1 (k := 0) (v := .ref (ad 1)) (by decide) gfX5_7 rfl dX5_moves_345 ?_
            refine lv_iload_n hx hb dX5_moves_348 rfl (lv_at hl 1 rfl) ?_
            refine lv_iconst (v := 0) hx hb dX5_moves_349 (by decide) ?_
            refine k5_of X.1 hl.1 qX5_43 ⟨Nat.le_of_ble_eq_true rfl, Nat.le_of_ble_eq_true rfl⟩ (Nat.le_of_ble_eq_true rfl) dX5_moves_350 ⟨Nat.zero_le _, Nat.zero_le _⟩ ?_
            refine lv_iconst (v := 3) hx hb dX5_moves_353 (by decide) ?_
            obtain ⟨hi7, hf⟩ := gd_o hf
            refine mr_st1 X hI hH hi7 dX5_moves_354 (fun H locs hH => ?_)
            refine lv_aload_n hx hb dX5_moves_355 rfl (lv_at hl 0 rfl) ?_
            refine mr_get X hH.1 (k := 0) (v := .ref (ad 1)) (by decide) gfX5_7 rfl dX5_moves_356 ?_
            refine lv_iload_n hx hb dX5_moves_359 rfl (lv_at hl 1 rfl) ?_
            refine lv_iconst (v := 4) hx hb dX5_moves_360 (by decide) ?_
            refine k5_of X.1 hl.1 qX5_43 ⟨Nat.le_of_ble_eq_true rfl, Nat.le_of_ble_eq_true rfl⟩ (Nat.le_of_ble_eq_true rfl) dX5_moves_361 ⟨Nat.zero_le _, Nat.zero_le _⟩ ?_
            refine lv_bipush (v := 10) hx hb dX5_moves_364 (by decide) ?_
            refine lv_iload hx hb dX5_moves_366 (lv_at hl 4 rfl) ?_
            refine lv_imul hx hb dX5_moves_368 ?_
            obtain ⟨hi8, hf⟩ := gd_o hf
            refine mr_st1 X hI hH hi8 dX5_moves_369 (fun H locs hH => ?_)
            refine lv_aload_n hx hb dX5_moves_370 rfl (lv_at hl 0 rfl) ?_
            refine mr_get X hH.1 (k := 0) (v := .ref (ad 1)) (by decide) gfX5_7 rfl dX5_moves_371 ?_
            refine lv_iload_n hx hb dX5_moves_374 rfl (lv_at hl 1 rfl) ?_
            refine lv_iconst (v := 3) hx hb dX5_moves_375 (by decide) ?_
            refine k5_of X.1 hl.1 qX5_43 ⟨Nat.le_of_ble_eq_true rfl, Nat.le_of_ble_eq_true rfl⟩ (Nat.le_of_ble_eq_true rfl) dX5_moves_376 ⟨Nat.zero_le _, Nat.zero_le _⟩ ?_
            refine lv_iconst (v := 0) hx hb dX5_moves_379 (by decide) ?_
            obtain ⟨hi9, hf⟩ := gd_o hf
            refine mr_st1 X hI hH hi9 dX5_moves_380 (fun H locs hH => ?_)
            exact w5_moves_381 X hI hH (lv_sub hl [0, 4] rfl) hf
def f5_moves_269 (x1 : Int32) (x2 : Int32) (x3 : Int32) (x4 : Int32) (v1 : Nat → Int32) : Option ((Nat → Int32)) := gd (e5_of x1 3) 171 (gd (e5_of x1 4) 171 (f5_moves_300 fu x1 x3 x4 ((x2 / 10) + 1) (upd (upd v1 (Int32.toNatClampNeg (e5_of x1 3)) x3) (Int32.toNatClampNeg (e5_of x1 4)) x4)))
set_option maxRecDepth 100000 in
set_option maxHeartbeats 4000000 in
theorem w5_moves_269 {p : Program} {l : Launch} {e : Env} {s : State} {m : MethodId} {args : Array Value} {below : List Frame} {meth : Method} {c : Code} {D : va_G} {cI cZ : ClassId} {ad : Nat → Nat} {v0 v1 v2 v3 v4 v5 v6 v7 v8 : Nat → Int32} (X : mX D cI cZ p s m args meth c cX5_moves 7 none) (hI : mInj ad) {x1 : Int32} {x2 : Int32} {x3 : Int32} {x4 : Int32} {t : (Nat → Int32)}  {H : Heap} {locs : List Loc} (hH : mH D cI cZ ad v0 v1 v2 v3 v4 v5 v6 v7 v8 s H locs) {ls : Array Slot} (hl : lv_has ls 7 [(0, .ref (ad 0)), (1, .int x1), (2, .int x2), (3, .int x3), (4, .int x4)]) (hf : f5_moves_269 x1 x2 x3 x4 v1 = some t) : W p l e rm5_moves s m args below meth c H locs 0 0 (MQ below (va_Qv (fun (_ : Unit) => True) (fun _ t9 => mB D cI cZ ad v0 t v2 v3 v4 v5 v6 v7 v8 t9) (mA ad s.heap.size)) args s 0 0 (mA ad s.heap.size)) (F0 m 269 ls []) := by
  obtain ⟨⟨hx, hb, hml, hown, hts⟩, hr, hlk, hK⟩ := id X
  replace hf : (gd (e5_of x1 3) 171 (gd (e5_of x1 4) 171 (f5_moves_300 fu x1 x3 x4 ((x2 / 10) + 1) (upd (upd v1 (Int32.toNatClampNeg (e5_of x1 3)) x3) (Int32.toNatClampNeg (e5_of x1 4)) x4)))) = some t := hf
  refine lv_aload_n hx hb dX5_moves_269 rfl (lv_at hl 0 rfl) ?_
  refine mr_get X hH.1 (k := 0) (v := .ref (ad 1)) (by decide) gfX5_7 rfl dX5_moves_270 ?_
  refine lv_iload_n hx hb dX5_moves_273 rfl (lv_at hl 1 rfl) ?_
  refine lv_iconst (v := 3) hx hb dX5_moves_274 (by decide) ?_
  refine k5_of X.1 hl.1 qX5_43 ⟨Nat.le_of_ble_eq_true rfl, Nat.le_of_ble_eq_true rfl⟩ (Nat.le_of_ble_eq_true rfl) dX5_moves_275 ⟨Nat.zero_le _, Nat.zero_le _⟩ ?_
  refine lv_iload_n hx hb dX5_moves_278 rfl (lv_at hl 3 rfl) ?_
  obtain ⟨hi1, hf⟩ := gd_o hf
  refine mr_st1 X hI hH hi1 dX5_moves_279 (fun H locs hH => ?_)
  refine lv_aload_n hx hb dX5_moves_280 rfl (lv_at hl 0 rfl) ?_
  refine mr_get X hH.1 (k := 0) (v := .ref (ad 1)) (by decide) gfX5_7 rfl dX5_moves_281 ?_
  refine lv_iload_n hx hb dX5_moves_284 rfl (lv_at hl 1 rfl) ?_
  refine lv_iconst (v := 4) hx hb dX5_moves_285 (by decide) ?_
  refine k5_of X.1 hl.1 qX5_43 ⟨Nat.le_of_ble_eq_true rfl, Nat.le_of_ble_eq_true rfl⟩ (Nat.le_of_ble_eq_true rfl) dX5_moves_286 ⟨Nat.zero_le _, Nat.zero_le _⟩ ?_
  refine lv_iload hx hb dX5_moves_289 (lv_at hl 4 rfl) ?_
  obtain ⟨hi2, hf⟩ := gd_o hf
  refine mr_st1 X hI hH hi2 dX5_moves_291 (fun H locs hH => ?_)
  refine lv_iload_n hx hb dX5_moves_292 rfl (lv_at hl 2 rfl) ?_
  refine lv_bipush (v := 10) hx hb dX5_moves_293 (by decide) ?_
  refine lv_idiv hx hb dX5_moves_295 (by decide) ?_
  refine lv_iconst (v := 1) hx hb dX5_moves_296 (by decide) ?_
  refine lv_iadd hx hb dX5_moves_297 ?_
  refine lv_istore (lv' := [(6, .int ((x2 / 10) + 1)), (0, .ref (ad 0)), (1, .int x1), (2, .int x2), (3, .int x3), (4, .int x4)]) hx hb dX5_moves_298 hl (by decide) rfl (fun ls hl => ?_)
  exact w5_moves_300 X hI _ _ _ _ _ _ _ _ hH _ (lv_sub hl [1, 2, 4, 5, 0] rfl) hf
def f5_moves_253 (x1 : Int32) (x2 : Int32) (x4 : Int32) (y0 : Int32) (v1 : Nat → Int32) : Option ((Nat → Int32)) := gd (e5_of x1 7) 171 (gd (e5_of x1 7) 171 (f5_moves_269 x1 x2 y0 x4 (upd v1 (Int32.toNatClampNeg (e5_of x1 7)) ((v1 (Int32.toNatClampNeg (e5_of x1 7))) + 1))))
set_option maxRecDepth 100000 in
set_option maxHeartbeats 4000000 in
theorem w5_moves_253 {p : Program} {l : Launch} {e : Env} {s : State} {m : MethodId} {args : Array Value} {below : List Frame} {meth : Method} {c : Code} {D : va_G} {cI cZ : ClassId} {ad : Nat → Nat} {v0 v1 v2 v3 v4 v5 v6 v7 v8 : Nat → Int32} (X : mX D cI cZ p s m args meth c cX5_moves 7 none) (hI : mInj ad) {x1 : Int32} {x2 : Int32} {x4 : Int32} {y0 : Int32} {t : (Nat → Int32)}  {H : Heap} {locs : List Loc} (hH : mH D cI cZ ad v0 v1 v2 v3 v4 v5 v6 v7 v8 s H locs) {ls : Array Slot} (hl : lv_has ls 7 [(0, .ref (ad 0)), (1, .int x1), (2, .int x2), (4, .int x4)]) (hf : f5_moves_253 x1 x2 x4 y0 v1 = some t) : W p l e rm5_moves s m args below meth c H locs 0 0 (MQ below (va_Qv (fun (_ : Unit) => True) (fun _ t9 => mB D cI cZ ad v0 t v2 v3 v4 v5 v6 v7 v8 t9) (mA ad s.heap.size)) args s 0 0 (mA ad s.heap.size)) (F0 m 253 ls [.int y0]) := by
  obtain ⟨⟨hx, hb, hml, hown, hts⟩, hr, hlk, hK⟩ := id X
  replace hf : (gd (e5_of x1 7) 171 (gd (e5_of x1 7) 171 (f5_moves_269 x1 x2 y0 x4 (upd v1 (Int32.toNatClampNeg (e5_of x1 7)) ((v1 (Int32.toNatClampNeg (e5_of x1 7))) + 1))))) = some t := hf
  refine lv_istore_n (lv' := [(3, .int y0), (0, .ref (ad 0)), (1, .int x1), (2, .int x2), (4, .int x4)]) hx hb dX5_moves_253 rfl hl (by decide) rfl (fun ls hl => ?_)
  refine lv_aload_n hx hb dX5_moves_254 rfl (lv_at hl 1 rfl) ?_
  refine mr_get X hH.1 (k := 0) (v := .ref (ad 1)) (by decide) gfX5_7 rfl dX5_moves_255 ?_
  refine lv_iload_n hx hb dX5_moves_258 rfl (lv_at hl 2 rfl) ?_
  refine lv_bipush (v := 7) hx hb dX5_moves_259 (by decide) ?_
  refine k5_of X.1 hl.1 qX5_43 ⟨Nat.le_of_ble_eq_true rfl, Nat.le_of_ble_eq_true rfl⟩ (Nat.le_of_ble_eq_true rfl) dX5_moves_261 ⟨Nat.zero_le _, Nat.zero_le _⟩ ?_
  refine lv_dup2_11 hx hb dX5_moves_264 rfl rfl ?_
  obtain ⟨hi1, hf⟩ := gd_o hf
  refine mr_ld1 X hH.1 hi1 dX5_moves_265 ?_
  refine lv_iconst (v := 1) hx hb dX5_moves_266 (by decide) ?_
  refine lv_iadd hx hb dX5_moves_267 ?_
  obtain ⟨hi2, hf⟩ := gd_o hf
  refine mr_st1 X hI hH hi2 dX5_moves_268 (fun H locs hH => ?_)
  exact w5_moves_269 X hI hH (lv_sub hl [1, 2, 3, 0, 4] rfl) hf
def f5_moves_221 (x1 : Int32) (x2 : Int32) (x3 : Int32) (x5 : Int32) (y0 : Int32) (v1 : Nat → Int32) : Option ((Nat → Int32)) := gd (e5_of x5 3) 171 (if x3 ≤ (v1 (Int32.toNatClampNeg (e5_of x5 3))) then (f5_moves_253 x1 x2 y0 x3 v1) else (gd (e5_of x5 3) 171 (f5_moves_253 x1 x2 y0 (v1 (Int32.toNatClampNeg (e5_of x5 3))) v1)))
set_option maxRecDepth 100000 in
set_option maxHeartbeats 4000000 in
theorem w5_moves_221 {p : Program} {l : Launch} {e : Env} {s : State} {m : MethodId} {args : Array Value} {below : List Frame} {meth : Method} {c : Code} {D : va_G} {cI cZ : ClassId} {ad : Nat → Nat} {v0 v1 v2 v3 v4 v5 v6 v7 v8 : Nat → Int32} (X : mX D cI cZ p s m args meth c cX5_moves 7 none) (hI : mInj ad) {x1 : Int32} {x2 : Int32} {x3 : Int32} {x5 : Int32} {y0 : Int32} {t : (Nat → Int32)}  {H : Heap} {locs : List Loc} (hH : mH D cI cZ ad v0 v1 v2 v3 v4 v5 v6 v7 v8 s H locs) {ls : Array Slot} (hl : lv_has ls 7 [(0, .ref (ad 0)), (1, .int x1), (2, .int x2), (3, .int x3), (5, .int x5)]) (hf : f5_moves_221 x1 x2 x3 x5 y0 v1 = some t) : W p l e rm5_moves s m args below meth c H locs 0 0 (MQ below (va_Qv (fun (_ : Unit) => True) (fun _ t9 => mB D cI cZ ad v0 t v2 v3 v4 v5 v6 v7 v8 t9) (mA ad s.heap.size)) args s 0 0 (mA ad s.heap.size)) (F0 m 221 ls [.int y0]) := by
  obtain ⟨⟨hx, hb, hml, hown, hts⟩, hr, hlk, hK⟩ := id X
  replace hf : (gd (e5_of x5 3) 171 (if x3 ≤ (v1 (Int32.toNatClampNeg (e5_of x5 3))) then (f5_moves_253 x1 x2 y0 x3 v1) else (gd (e5_of x5 3) 171 (f5_moves_253 x1 x2 y0 (v1 (Int32.toNatClampNeg (e5_of x5 3))) v1)))) = some t := hf
  refine lv_istore (lv' := [(4, .int y0), (0, .ref (ad 0)), (1, .int x1), (2, .int x2), (3, .int x3), (5, .int x5)]) hx hb dX5_moves_221 hl (by decide) rfl (fun ls hl => ?_)
  refine lv_aload_n hx hb dX5_moves_223 rfl (lv_at hl 1 rfl) ?_
  refine mr_get X hH.1 (k := 0) (v := .ref (ad 1)) (by decide) gfX5_7 rfl dX5_moves_224 ?_
  refine lv_iload hx hb dX5_moves_227 (lv_at hl 5 rfl) ?_
  refine lv_iconst (v := 3) hx hb dX5_moves_229 (by decide) ?_
  refine k5_of X.1 hl.1 qX5_43 ⟨Nat.le_of_ble_eq_true rfl, Nat.le_of_ble_eq_true rfl⟩ (Nat.le_of_ble_eq_true rfl) dX5_moves_230 ⟨Nat.zero_le _, Nat.zero_le _⟩ ?_
  obtain ⟨hi1, hf⟩ := gd_o hf
  refine mr_ld1 X hH.1 hi1 dX5_moves_233 ?_
  refine lv_iload_n hx hb dX5_moves_234 rfl (lv_at hl 4 rfl) ?_
  refine lv_icmp_ge (tgt := 252) hx hb dX5_moves_235 (by decide) (fun c2 => ?_) (fun c2 => ?_)
  · have hf := it_t c2 hf
    refine lv_iload_n hx hb dX5_moves_252 rfl (lv_at hl 4 rfl) ?_
    exact w5_moves_253 X hI hH (lv_sub hl [1, 2, 3, 0] rfl) hf
  · have hf := it_f c2 hf
    refine lv_aload_n hx hb dX5_moves_238 rfl (lv_at hl 1 rfl) ?_
    refine mr_get X hH.1 (k := 0) (v := .ref (ad 1)) (by decide) gfX5_7 rfl dX5_moves_239 ?_
    refine lv_iload hx hb dX5_moves_242 (lv_at hl 5 rfl) ?_
    refine lv_iconst (v := 3) hx hb dX5_moves_244 (by decide) ?_
    refine k5_of X.1 hl.1 qX5_43 ⟨Nat.le_of_ble_eq_true rfl, Nat.le_of_ble_eq_true rfl⟩ (Nat.le_of_ble_eq_true rfl) dX5_moves_245 ⟨Nat.zero_le _, Nat.zero_le _⟩ ?_
    obtain ⟨hi3, hf⟩ := gd_o hf
    refine mr_ld1 X hH.1 hi3 dX5_moves_248 ?_
    refine lv_goto (tgt := 253) hx hb dX5_moves_249 (by decide) ?_
    exact w5_moves_253 X hI hH (lv_sub hl [1, 2, 3, 0] rfl) hf
def f5_moves_209 (x1 : Int32) (x2 : Int32) (x3 : Int32) (x5 : Int32) (x6 : Int32) (v1 : Nat → Int32) : Option ((Nat → Int32)) := if x6 ≤ x2 then (f5_moves_221 x1 x2 x3 x5 x2 v1) else (f5_moves_221 x1 x2 x3 x5 x6 v1)
set_option maxRecDepth 100000 in
set_option maxHeartbeats 4000000 in
theorem w5_moves_209 {p : Program} {l : Launch} {e : Env} {s : State} {m : MethodId} {args : Array Value} {below : List Frame} {meth : Method} {c : Code} {D : va_G} {cI cZ : ClassId} {ad : Nat → Nat} {v0 v1 v2 v3 v4 v5 v6 v7 v8 : Nat → Int32} (X : mX D cI cZ p s m args meth c cX5_moves 7 none) (hI : mInj ad) {x1 : Int32} {x2 : Int32} {x3 : Int32} {x5 : Int32} {x6 : Int32} {t : (Nat → Int32)}  {H : Heap} {locs : List Loc} (hH : mH D cI cZ ad v0 v1 v2 v3 v4 v5 v6 v7 v8 s H locs) {ls : Array Slot} (hl : lv_has ls 7 [(0, .ref (ad 0)), (1, .int x1), (2, .int x2), (3, .int x3), (5, .int x5), (6, .int x6)]) (hf : f5_moves_209 x1 x2 x3 x5 x6 v1 = some t) : W p l e rm5_moves s m args below meth c H locs 0 0 (MQ below (va_Qv (fun (_ : Unit) => True) (fun _ t9 => mB D cI cZ ad v0 t v2 v3 v4 v5 v6 v7 v8 t9) (mA ad s.heap.size)) args s 0 0 (mA ad s.heap.size)) (F0 m 209 ls []) := by
  obtain ⟨⟨hx, hb, hml, hown, hts⟩, hr, hlk, hK⟩ := id X
  replace hf : (if x6 ≤ x2 then (f5_moves_221 x1 x2 x3 x5 x2 v1) else (f5_moves_221 x1 x2 x3 x5 x6 v1)) = some t := hf
  refine lv_iload hx hb dX5_moves_209 (lv_at hl 5 rfl) ?_
  refine lv_iload_n hx hb dX5_moves_211 rfl (lv_at hl 2 rfl) ?_
  refine lv_icmp_le (tgt := 220) hx hb dX5_moves_212 (by decide) (fun c1 => ?_) (fun c1 => ?_)
  · have hf := it_t c1 hf
    refine lv_iload_n hx hb dX5_moves_220 rfl (lv_at hl 2 rfl) ?_
    exact w5_moves_221 X hI hH (lv_sub hl [0, 1, 2, 3, 4] rfl) hf
  · have hf := it_f c1 hf
    refine lv_iload hx hb dX5_moves_215 (lv_at hl 5 rfl) ?_
    refine lv_goto (tgt := 221) hx hb dX5_moves_217 (by decide) ?_
    exact w5_moves_221 X hI hH (lv_sub hl [0, 1, 2, 3, 4] rfl) hf
def f5_moves_155 (x1 : Int32) (x2 : Int32) (x3 : Int32) (y0 : Int32) (y1 : Int32) (v1 : Nat → Int32) : Option ((Nat → Int32)) := gd y1 171 (Option.bind (f5_before_0 (upd v1 (Int32.toNatClampNeg y1) y0) x1) (fun t2 => if t2 = ((-1)) then (f5_moves_269 x1 x2 x3 (x2 + x3) (upd v1 (Int32.toNatClampNeg y1) y0)) else (gd (e5_of t2 4) 171 (if (x2 + x3) ≤ (((upd v1 (Int32.toNatClampNeg y1) y0) (Int32.toNatClampNeg (e5_of t2 4))) - 10) then (f5_moves_269 x1 x2 x3 (x2 + x3) (upd v1 (Int32.toNatClampNeg y1) y0)) else (gd (e5_of t2 4) 171 (f5_moves_209 x1 x2 x3 t2 (((upd v1 (Int32.toNatClampNeg y1) y0) (Int32.toNatClampNeg (e5_of t2 4))) - 10) (upd v1 (Int32.toNatClampNeg y1) y0)))))))
set_option maxRecDepth 100000 in
set_option maxHeartbeats 4000000 in
theorem w5_moves_155 {p : Program} {l : Launch} {e : Env} {s : State} {m : MethodId} {args : Array Value} {below : List Frame} {meth : Method} {c : Code} {D : va_G} {cI cZ : ClassId} {ad : Nat → Nat} {v0 v1 v2 v3 v4 v5 v6 v7 v8 : Nat → Int32} (X : mX D cI cZ p s m args meth c cX5_moves 7 none) (hI : mInj ad) {x1 : Int32} {x2 : Int32} {x3 : Int32} {y0 : Int32} {y1 : Int32} {t : (Nat → Int32)}  {H : Heap} {locs : List Loc} (hH : mH D cI cZ ad v0 v1 v2 v3 v4 v5 v6 v7 v8 s H locs) {ls : Array Slot} (hl : lv_has ls 7 [(0, .ref (ad 0)), (1, .int x1), (2, .int x2), (3, .int x3)]) (hf : f5_moves_155 x1 x2 x3 y0 y1 v1 = some t) : W p l e rm5_moves s m args below meth c H locs 0 0 (MQ below (va_Qv (fun (_ : Unit) => True) (fun _ t9 => mB D cI cZ ad v0 t v2 v3 v4 v5 v6 v7 v8 t9) (mA ad s.heap.size)) args s 0 0 (mA ad s.heap.size)) (F0 m 155 ls [.int y0, .int y1, .ref (ad 1)]) := by
  obtain ⟨⟨hx, hb, hml, hown, hts⟩, hr, hlk, hK⟩ := id X
  replace hf : (gd y1 171 (Option.bind (f5_before_0 (upd v1 (Int32.toNatClampNeg y1) y0) x1) (fun t2 => if t2 = ((-1)) then (f5_moves_269 x1 x2 x3 (x2 + x3) (upd v1 (Int32.toNatClampNeg y1) y0)) else (gd (e5_of t2 4) 171 (if (x2 + x3) ≤ (((upd v1 (Int32.toNatClampNeg y1) y0) (Int32.toNatClampNeg (e5_of t2 4))) - 10) then (f5_moves_269 x1 x2 x3 (x2 + x3) (upd v1 (Int32.toNatClampNeg y1) y0)) else (gd (e5_of t2 4) 171 (f5_moves_209 x1 x2 x3 t2 (((upd v1 (Int32.toNatClampNeg y1) y0) (Int32.toNatClampNeg (e5_of t2 4))) - 10) (upd v1 (Int32.toNatClampNeg y1) y0)))))))) = some t := hf
  obtain ⟨hi1, hf⟩ := gd_o hf
  refine mr_st1 X hI hH hi1 dX5_moves_155 (fun H locs hH => ?_)
  refine lv_iload_n hx hb dX5_moves_156 rfl (lv_at hl 2 rfl) ?_
  refine lv_iload_n hx hb dX5_moves_157 rfl (lv_at hl 3 rfl) ?_
  refine lv_iadd hx hb dX5_moves_158 ?_
  refine lv_istore (lv' := [(4, .int (x2 + x3)), (0, .ref (ad 0)), (1, .int x1), (2, .int x2), (3, .int x3)]) hx hb dX5_moves_159 hl (by decide) rfl (fun ls hl => ?_)
  refine lv_aload_n hx hb dX5_moves_161 rfl (lv_at hl 1 rfl) ?_
  refine lv_iload_n hx hb dX5_moves_162 rfl (lv_at hl 2 rfl) ?_
  obtain ⟨t2, ht2, hf⟩ := bd_o hf
  refine k5_before X hH.1 hl.1 qX5_121 ⟨Nat.le_of_ble_eq_true rfl, Nat.le_of_ble_eq_true rfl⟩ ht2 (Nat.le_of_ble_eq_true rfl) dX5_moves_163 ⟨Nat.zero_le _, Nat.zero_le _⟩ ?_
  refine lv_istore (lv' := [(5, .int t2), (4, .int (x2 + x3)), (0, .ref (ad 0)), (1, .int x1), (2, .int x2), (3, .int x3)]) hx hb dX5_moves_166 hl (by decide) rfl (fun ls hl => ?_)
  refine lv_iload hx hb dX5_moves_168 (lv_at hl 0 rfl) ?_
  refine lv_iconst (v := (-1)) hx hb dX5_moves_170 (by decide) ?_
  refine lv_icmp_eq (tgt := 269) hx hb dX5_moves_171 (by decide) (fun c3 => ?_) (fun c3 => ?_)
  · have hf := it_t c3 hf
    exact w5_moves_269 X hI hH (lv_sub hl [2, 3, 4, 5, 1] rfl) hf
  · have hf := it_f c3 hf
    refine lv_iload hx hb dX5_moves_174 (lv_at hl 1 rfl) ?_
    refine lv_aload_n hx hb dX5_moves_176 rfl (lv_at hl 2 rfl) ?_
    refine mr_get X hH.1 (k := 0) (v := .ref (ad 1)) (by decide) gfX5_7 rfl dX5_moves_177 ?_
    refine lv_iload hx hb dX5_moves_180 (lv_at hl 0 rfl) ?_
    refine lv_iconst (v := 4) hx hb dX5_moves_182 (by decide) ?_
    refine k5_of X.1 hl.1 qX5_43 ⟨Nat.le_of_ble_eq_true rfl, Nat.le_of_ble_eq_true rfl⟩ (Nat.le_of_ble_eq_true rfl) dX5_moves_183 ⟨Nat.zero_le _, Nat.zero_le _⟩ ?_
    obtain ⟨hi4, hf⟩ := gd_o hf
    refine mr_ld1 X hH.1 hi4 dX5_moves_186 ?_
    refine lv_bipush (v := 10) hx hb dX5_moves_187 (by decide) ?_
    refine lv_isub hx hb dX5_moves_189 ?_
    refine lv_icmp_le (tgt := 269) hx hb dX5_moves_190 (by decide) (fun c5 => ?_) (fun c5 => ?_)
    · have hf := it_t c5 hf
      exact w5_moves_269 X hI hH (lv_sub hl [2, 3, 4, 5, 1] rfl) hf
    · have hf := it_f c5 hf
      refine lv_aload_n hx hb dX5_moves_193 rfl (lv_at hl 2 rfl) ?_
      refine mr_get X hH.1 (k := 0) (v := .ref (ad 1)) (by decide) gfX5_7 rfl dX5_moves_194 ?_
      refine lv_iload hx hb dX5_moves_197 (lv_at hl 0 rfl) ?_
      refine lv_iconst (v := 4) hx hb dX5_moves_199 (by decide) ?_
      refine k5_of X.1 hl.1 qX5_43 ⟨Nat.le_of_ble_eq_true rfl, Nat.le_of_ble_eq_true rfl⟩ (Nat.le_of_ble_eq_true rfl) dX5_moves_200 ⟨Nat.zero_le _, Nat.zero_le _⟩ ?_
      obtain ⟨hi6, hf⟩ := gd_o hf
      refine mr_ld1 X hH.1 hi6 dX5_moves_203 ?_
      refine lv_bipush (v := 10) hx hb dX5_moves_204 (by decide) ?_
      refine lv_isub hx hb dX5_moves_206 ?_
      refine lv_istore (lv' := [(6, .int (((upd v1 (Int32.toNatClampNeg y1) y0) (Int32.toNatClampNeg (e5_of t2 4))) - 10)), (5, .int t2), (4, .int (x2 + x3)), (0, .ref (ad 0)), (1, .int x1), (2, .int x2), (3, .int x3)]) hx hb dX5_moves_207 hl (by decide) rfl (fun ls hl => ?_)
      exact w5_moves_209 X hI hH (lv_sub hl [3, 4, 5, 6, 1, 0] rfl) hf
def f5_moves_106 (x1 : Int32) (x2 : Int32) (x3 : Int32) (y0 : Int32) (y1 : Int32) (y2 : Int32) (v1 : Nat → Int32) : Option ((Nat → Int32)) := Option.bind (f5_within_0 (y1 + y0) 0 200) (fun t1 => gd y2 171 (gd (e5_of x1 8) 171 (if x3 ≤ ((upd v1 (Int32.toNatClampNeg y2) t1) (Int32.toNatClampNeg (e5_of x1 8))) then (gd (e5_of x1 8) 171 (f5_moves_155 x1 x2 x3 ((upd v1 (Int32.toNatClampNeg y2) t1) (Int32.toNatClampNeg (e5_of x1 8))) (e5_of x1 8) (upd v1 (Int32.toNatClampNeg y2) t1))) else (f5_moves_155 x1 x2 x3 x3 (e5_of x1 8) (upd v1 (Int32.toNatClampNeg y2) t1)))))
set_option maxRecDepth 100000 in
set_option maxHeartbeats 4000000 in
theorem w5_moves_106 {p : Program} {l : Launch} {e : Env} {s : State} {m : MethodId} {args : Array Value} {below : List Frame} {meth : Method} {c : Code} {D : va_G} {cI cZ : ClassId} {ad : Nat → Nat} {v0 v1 v2 v3 v4 v5 v6 v7 v8 : Nat → Int32} (X : mX D cI cZ p s m args meth c cX5_moves 7 none) (hI : mInj ad) {x1 : Int32} {x2 : Int32} {x3 : Int32} {y0 : Int32} {y1 : Int32} {y2 : Int32} {t : (Nat → Int32)}  {H : Heap} {locs : List Loc} (hH : mH D cI cZ ad v0 v1 v2 v3 v4 v5 v6 v7 v8 s H locs) {ls : Array Slot} (hl : lv_has ls 7 [(0, .ref (ad 0)), (1, .int x1), (2, .int x2), (3, .int x3)]) (hf : f5_moves_106 x1 x2 x3 y0 y1 y2 v1 = some t) : W p l e rm5_moves s m args below meth c H locs 0 0 (MQ below (va_Qv (fun (_ : Unit) => True) (fun _ t9 => mB D cI cZ ad v0 t v2 v3 v4 v5 v6 v7 v8 t9) (mA ad s.heap.size)) args s 0 0 (mA ad s.heap.size)) (F0 m 106 ls [.int y0, .int y1, .int y2, .ref (ad 1)]) := by
  obtain ⟨⟨hx, hb, hml, hown, hts⟩, hr, hlk, hK⟩ := id X
  replace hf : (Option.bind (f5_within_0 (y1 + y0) 0 200) (fun t1 => gd y2 171 (gd (e5_of x1 8) 171 (if x3 ≤ ((upd v1 (Int32.toNatClampNeg y2) t1) (Int32.toNatClampNeg (e5_of x1 8))) then (gd (e5_of x1 8) 171 (f5_moves_155 x1 x2 x3 ((upd v1 (Int32.toNatClampNeg y2) t1) (Int32.toNatClampNeg (e5_of x1 8))) (e5_of x1 8) (upd v1 (Int32.toNatClampNeg y2) t1))) else (f5_moves_155 x1 x2 x3 x3 (e5_of x1 8) (upd v1 (Int32.toNatClampNeg y2) t1)))))) = some t := hf
  refine lv_iadd hx hb dX5_moves_106 ?_
  refine lv_iconst (v := 0) hx hb dX5_moves_107 (by decide) ?_
  refine lv_sipush (v := 200) hx hb dX5_moves_108 (by decide) ?_
  obtain ⟨t1, ht1, hf⟩ := bd_o hf
  refine k5_within X.1 hl.1 qX5_117 ⟨Nat.le_of_ble_eq_true rfl, Nat.le_of_ble_eq_true rfl⟩ ht1 (Nat.le_of_ble_eq_true rfl) dX5_moves_111 ⟨Nat.zero_le _, Nat.zero_le _⟩ ?_
  obtain ⟨hi2, hf⟩ := gd_o hf
  refine mr_st1 X hI hH hi2 dX5_moves_114 (fun H locs hH => ?_)
  refine lv_aload_n hx hb dX5_moves_115 rfl (lv_at hl 0 rfl) ?_
  refine mr_get X hH.1 (k := 0) (v := .ref (ad 1)) (by decide) gfX5_7 rfl dX5_moves_116 ?_
  refine lv_iload_n hx hb dX5_moves_119 rfl (lv_at hl 1 rfl) ?_
  refine lv_bipush (v := 8) hx hb dX5_moves_120 (by decide) ?_
  refine k5_of X.1 hl.1 qX5_43 ⟨Nat.le_of_ble_eq_true rfl, Nat.le_of_ble_eq_true rfl⟩ (Nat.le_of_ble_eq_true rfl) dX5_moves_122 ⟨Nat.zero_le _, Nat.zero_le _⟩ ?_
  refine lv_iload_n hx hb dX5_moves_125 rfl (lv_at hl 3 rfl) ?_
  refine lv_aload_n hx hb dX5_moves_126 rfl (lv_at hl 0 rfl) ?_
  refine mr_get X hH.1 (k := 0) (v := .ref (ad 1)) (by decide) gfX5_7 rfl dX5_moves_127 ?_
  refine lv_iload_n hx hb dX5_moves_130 rfl (lv_at hl 1 rfl) ?_
  refine lv_bipush (v := 8) hx hb dX5_moves_131 (by decide) ?_
  refine k5_of X.1 hl.1 qX5_43 ⟨Nat.le_of_ble_eq_true rfl, Nat.le_of_ble_eq_true rfl⟩ (Nat.le_of_ble_eq_true rfl) dX5_moves_133 ⟨Nat.zero_le _, Nat.zero_le _⟩ ?_
  obtain ⟨hi3, hf⟩ := gd_o hf
  refine mr_ld1 X hH.1 hi3 dX5_moves_136 ?_
  refine lv_icmp_le (tgt := 144) hx hb dX5_moves_137 (by decide) (fun c4 => ?_) (fun c4 => ?_)
  · have hf := it_t c4 hf
    refine lv_aload_n hx hb dX5_moves_144 rfl (lv_at hl 0 rfl) ?_
    refine mr_get X hH.1 (k := 0) (v := .ref (ad 1)) (by decide) gfX5_7 rfl dX5_moves_145 ?_
    refine lv_iload_n hx hb dX5_moves_148 rfl (lv_at hl 1 rfl) ?_
    refine lv_bipush (v := 8) hx hb dX5_moves_149 (by decide) ?_
    refine k5_of X.1 hl.1 qX5_43 ⟨Nat.le_of_ble_eq_true rfl, Nat.le_of_ble_eq_true rfl⟩ (Nat.le_of_ble_eq_true rfl) dX5_moves_151 ⟨Nat.zero_le _, Nat.zero_le _⟩ ?_
    obtain ⟨hi5, hf⟩ := gd_o hf
    refine mr_ld1 X hH.1 hi5 dX5_moves_154 ?_
    exact w5_moves_155 X hI hH (lv_sub hl [0, 1, 2, 3] rfl) hf
  · have hf := it_f c4 hf
    refine lv_iload_n hx hb dX5_moves_140 rfl (lv_at hl 3 rfl) ?_
    refine lv_goto (tgt := 155) hx hb dX5_moves_141 (by decide) ?_
    exact w5_moves_155 X hI hH (lv_sub hl [0, 1, 2, 3] rfl) hf
def f5_moves_0 (x1 : Int32) (v1 : Nat → Int32) : Option ((Nat → Int32)) := gd (e5_of x1 4) 171 (gd (e5_of x1 3) 171 (gd (0 + ((v1 (Int32.toNatClampNeg (e5_of x1 4))) / 10)) 171 (gd (e5_of x1 1) 171 (Option.bind (f5_force_0 v1 x1) (fun t5 => gd 168 171 (Option.bind (f5_within_0 (((((v1 (Int32.toNatClampNeg (e5_of x1 3))) + (v1 (Int32.toNatClampNeg (0 + ((v1 (Int32.toNatClampNeg (e5_of x1 4))) / 10))))) + ((v1 (Int32.toNatClampNeg (e5_of x1 1))) / 5)) - t5) - (v1 (Int32.toNatClampNeg 168))) 0 40) (fun t7 => gd (e5_of x1 5) 171 (if t7 ≤ 0 then (f5_moves_106 x1 (v1 (Int32.toNatClampNeg (e5_of x1 4))) t7 ((-5)) (v1 (Int32.toNatClampNeg (e5_of x1 5))) (e5_of x1 5) v1) else (gd (e5_of x1 2) 171 (f5_moves_106 x1 (v1 (Int32.toNatClampNeg (e5_of x1 4))) t7 (v1 (Int32.toNatClampNeg (e5_of x1 2))) (v1 (Int32.toNatClampNeg (e5_of x1 5))) (e5_of x1 5) v1))))))))))
set_option maxRecDepth 100000 in
set_option maxHeartbeats 4000000 in
theorem w5_moves_0 {p : Program} {l : Launch} {e : Env} {s : State} {m : MethodId} {args : Array Value} {below : List Frame} {meth : Method} {c : Code} {D : va_G} {cI cZ : ClassId} {ad : Nat → Nat} {v0 v1 v2 v3 v4 v5 v6 v7 v8 : Nat → Int32} (X : mX D cI cZ p s m args meth c cX5_moves 7 none) (hI : mInj ad) {x1 : Int32} {t : (Nat → Int32)}  {H : Heap} {locs : List Loc} (hH : mH D cI cZ ad v0 v1 v2 v3 v4 v5 v6 v7 v8 s H locs) {ls : Array Slot} (hl : lv_has ls 7 [(0, .ref (ad 0)), (1, .int x1)]) (hf : f5_moves_0 x1 v1 = some t) : W p l e rm5_moves s m args below meth c H locs 0 0 (MQ below (va_Qv (fun (_ : Unit) => True) (fun _ t9 => mB D cI cZ ad v0 t v2 v3 v4 v5 v6 v7 v8 t9) (mA ad s.heap.size)) args s 0 0 (mA ad s.heap.size)) (F0 m 0 ls []) := by
  obtain ⟨⟨hx, hb, hml, hown, hts⟩, hr, hlk, hK⟩ := id X
  replace hf : (gd (e5_of x1 4) 171 (gd (e5_of x1 3) 171 (gd (0 + ((v1 (Int32.toNatClampNeg (e5_of x1 4))) / 10)) 171 (gd (e5_of x1 1) 171 (Option.bind (f5_force_0 v1 x1) (fun t5 => gd 168 171 (Option.bind (f5_within_0 (((((v1 (Int32.toNatClampNeg (e5_of x1 3))) + (v1 (Int32.toNatClampNeg (0 + ((v1 (Int32.toNatClampNeg (e5_of x1 4))) / 10))))) + ((v1 (Int32.toNatClampNeg (e5_of x1 1))) / 5)) - t5) - (v1 (Int32.toNatClampNeg 168))) 0 40) (fun t7 => gd (e5_of x1 5) 171 (if t7 ≤ 0 then (f5_moves_106 x1 (v1 (Int32.toNatClampNeg (e5_of x1 4))) t7 ((-5)) (v1 (Int32.toNatClampNeg (e5_of x1 5))) (e5_of x1 5) v1) else (gd (e5_of x1 2) 171 (f5_moves_106 x1 (v1 (Int32.toNatClampNeg (e5_of x1 4))) t7 (v1 (Int32.toNatClampNeg (e5_of x1 2))) (v1 (Int32.toNatClampNeg (e5_of x1 5))) (e5_of x1 5) v1))))))))))) = some t := hf
  refine lv_aload_n hx hb dX5_moves_0 rfl (lv_at hl 0 rfl) ?_
  refine mr_get X hH.1 (k := 0) (v := .ref (ad 1)) (by decide) gfX5_7 rfl dX5_moves_1 ?_
  refine lv_iload_n hx hb dX5_moves_4 rfl (lv_at hl 1 rfl) ?_
  refine lv_iconst (v := 4) hx hb dX5_moves_5 (by decide) ?_
  refine k5_of X.1 hl.1 qX5_43 ⟨Nat.le_of_ble_eq_true rfl, Nat.le_of_ble_eq_true rfl⟩ (Nat.le_of_ble_eq_true rfl) dX5_moves_6 ⟨Nat.zero_le _, Nat.zero_le _⟩ ?_
  obtain ⟨hi1, hf⟩ := gd_o hf
  refine mr_ld1 X hH.1 hi1 dX5_moves_9 ?_
  refine lv_istore_n (lv' := [(2, .int (v1 (Int32.toNatClampNeg (e5_of x1 4)))), (0, .ref (ad 0)), (1, .int x1)]) hx hb dX5_moves_10 rfl hl (by decide) rfl (fun ls hl => ?_)
  refine lv_aload_n hx hb dX5_moves_11 rfl (lv_at hl 1 rfl) ?_
  refine mr_get X hH.1 (k := 0) (v := .ref (ad 1)) (by decide) gfX5_7 rfl dX5_moves_12 ?_
  refine lv_iload_n hx hb dX5_moves_15 rfl (lv_at hl 2 rfl) ?_
  refine lv_iconst (v := 3) hx hb dX5_moves_16 (by decide) ?_
  refine k5_of X.1 hl.1 qX5_43 ⟨Nat.le_of_ble_eq_true rfl, Nat.le_of_ble_eq_true rfl⟩ (Nat.le_of_ble_eq_true rfl) dX5_moves_17 ⟨Nat.zero_le _, Nat.zero_le _⟩ ?_
  obtain ⟨hi2, hf⟩ := gd_o hf
  refine mr_ld1 X hH.1 hi2 dX5_moves_20 ?_
  refine lv_aload_n hx hb dX5_moves_21 rfl (lv_at hl 1 rfl) ?_
  refine mr_get X hH.1 (k := 0) (v := .ref (ad 1)) (by decide) gfX5_7 rfl dX5_moves_22 ?_
  refine lv_iconst (v := 0) hx hb dX5_moves_25 (by decide) ?_
  refine lv_iload_n hx hb dX5_moves_26 rfl (lv_at hl 0 rfl) ?_
  refine lv_bipush (v := 10) hx hb dX5_moves_27 (by decide) ?_
  refine lv_idiv hx hb dX5_moves_29 (by decide) ?_
  refine lv_iadd hx hb dX5_moves_30 ?_
  obtain ⟨hi3, hf⟩ := gd_o hf
  refine mr_ld1 X hH.1 hi3 dX5_moves_31 ?_
  refine lv_iadd hx hb dX5_moves_32 ?_
  refine lv_aload_n hx hb dX5_moves_33 rfl (lv_at hl 1 rfl) ?_
  refine mr_get X hH.1 (k := 0) (v := .ref (ad 1)) (by decide) gfX5_7 rfl dX5_moves_34 ?_
  refine lv_iload_n hx hb dX5_moves_37 rfl (lv_at hl 2 rfl) ?_
  refine lv_iconst (v := 1) hx hb dX5_moves_38 (by decide) ?_
  refine k5_of X.1 hl.1 qX5_43 ⟨Nat.le_of_ble_eq_true rfl, Nat.le_of_ble_eq_true rfl⟩ (Nat.le_of_ble_eq_true rfl) dX5_moves_39 ⟨Nat.zero_le _, Nat.zero_le _⟩ ?_
  obtain ⟨hi4, hf⟩ := gd_o hf
  refine mr_ld1 X hH.1 hi4 dX5_moves_42 ?_
  refine lv_iconst (v := 5) hx hb dX5_moves_43 (by decide) ?_
  refine lv_idiv hx hb dX5_moves_44 (by decide) ?_
  refine lv_iadd hx hb dX5_moves_45 ?_
  refine lv_aload_n hx hb dX5_moves_46 rfl (lv_at hl 1 rfl) ?_
  refine lv_iload_n hx hb dX5_moves_47 rfl (lv_at hl 2 rfl) ?_
  obtain ⟨t5, ht5, hf⟩ := bd_o hf
  refine k5_force X hH.1 hl.1 qX5_114 ⟨Nat.le_of_ble_eq_true rfl, Nat.le_of_ble_eq_true rfl⟩ ht5 (Nat.le_of_ble_eq_true rfl) dX5_moves_48 ⟨Nat.zero_le _, Nat.zero_le _⟩ ?_
  refine lv_isub hx hb dX5_moves_51 ?_
  refine lv_aload_n hx hb dX5_moves_52 rfl (lv_at hl 1 rfl) ?_
  refine mr_get X hH.1 (k := 0) (v := .ref (ad 1)) (by decide) gfX5_7 rfl dX5_moves_53 ?_
  refine lv_sipush (v := 168) hx hb dX5_moves_56 (by decide) ?_
  obtain ⟨hi6, hf⟩ := gd_o hf
  refine mr_ld1 X hH.1 hi6 dX5_moves_59 ?_
  refine lv_isub hx hb dX5_moves_60 ?_
  refine lv_iconst (v := 0) hx hb dX5_moves_61 (by decide) ?_
  refine lv_bipush (v := 40) hx hb dX5_moves_62 (by decide) ?_
  obtain ⟨t7, ht7, hf⟩ := bd_o hf
  refine k5_within X.1 hl.1 qX5_117 ⟨Nat.le_of_ble_eq_true rfl, Nat.le_of_ble_eq_true rfl⟩ ht7 (Nat.le_of_ble_eq_true rfl) dX5_moves_64 ⟨Nat.zero_le _, Nat.zero_le _⟩ ?_
  refine lv_istore_n (lv' := [(3, .int t7), (2, .int (v1 (Int32.toNatClampNeg (e5_of x1 4)))), (0, .ref (ad 0)), (1, .int x1)]) hx hb dX5_moves_67 rfl hl (by decide) rfl (fun ls hl => ?_)
  refine lv_aload_n hx hb dX5_moves_68 rfl (lv_at hl 2 rfl) ?_
  refine mr_get X hH.1 (k := 0) (v := .ref (ad 1)) (by decide) gfX5_7 rfl dX5_moves_69 ?_
  refine lv_iload_n hx hb dX5_moves_72 rfl (lv_at hl 3 rfl) ?_
  refine lv_iconst (v := 5) hx hb dX5_moves_73 (by decide) ?_
  refine k5_of X.1 hl.1 qX5_43 ⟨Nat.le_of_ble_eq_true rfl, Nat.le_of_ble_eq_true rfl⟩ (Nat.le_of_ble_eq_true rfl) dX5_moves_74 ⟨Nat.zero_le _, Nat.zero_le _⟩ ?_
  refine lv_aload_n hx hb dX5_moves_77 rfl (lv_at hl 2 rfl) ?_
  refine mr_get X hH.1 (k := 0) (v := .ref (ad 1)) (by decide) gfX5_7 rfl dX5_moves_78 ?_
  refine lv_iload_n hx hb dX5_moves_81 rfl (lv_at hl 3 rfl) ?_
  refine lv_iconst (v := 5) hx hb dX5_moves_82 (by decide) ?_
  refine k5_of X.1 hl.1 qX5_43 ⟨Nat.le_of_ble_eq_true rfl, Nat.le_of_ble_eq_true rfl⟩ (Nat.le_of_ble_eq_true rfl) dX5_moves_83 ⟨Nat.zero_le _, Nat.zero_le _⟩ ?_
  obtain ⟨hi8, hf⟩ := gd_o hf
  refine mr_ld1 X hH.1 hi8 dX5_moves_86 ?_
  refine lv_iload_n hx hb dX5_moves_87 rfl (lv_at hl 0 rfl) ?_
  refine lv_if_le (tgt := 104) hx hb dX5_moves_88 (by decide) (fun c9 => ?_) (fun c9 => ?_)
  · have hf := it_t c9 hf
    refine lv_bipush (v := (-5)) hx hb dX5_moves_104 (by decide) ?_
    exact w5_moves_106 X hI hH (lv_sub hl [2, 3, 1, 0] rfl) hf
  · have hf := it_f c9 hf
    refine lv_aload_n hx hb dX5_moves_91 rfl (lv_at hl 2 rfl) ?_
    refine mr_get X hH.1 (k := 0) (v := .ref (ad 1)) (by decide) gfX5_7 rfl dX5_moves_92 ?_
    refine lv_iload_n hx hb dX5_moves_95 rfl (lv_at hl 3 rfl) ?_
    refine lv_iconst (v := 2) hx hb dX5_moves_96 (by decide) ?_
    refine k5_of X.1 hl.1 qX5_43 ⟨Nat.le_of_ble_eq_true rfl, Nat.le_of_ble_eq_true rfl⟩ (Nat.le_of_ble_eq_true rfl) dX5_moves_97 ⟨Nat.zero_le _, Nat.zero_le _⟩ ?_
    obtain ⟨hi10, hf⟩ := gd_o hf
    refine mr_ld1 X hH.1 hi10 dX5_moves_100 ?_
    refine lv_goto (tgt := 106) hx hb dX5_moves_101 (by decide) ?_
    exact w5_moves_106 X hI hH (lv_sub hl [2, 3, 1, 0] rfl) hf
set_option maxRecDepth 100000 in
set_option maxHeartbeats 4000000 in
theorem c5_moves (l : Launch) {D : va_G} {cI cZ : ClassId} {ad : Nat → Nat} {v0 v1 v2 v3 v4 v5 v6 v7 v8 : Nat → Int32} (hI : mInj ad) (sz : Nat) (x1 : Int32) {t : (Nat → Int32)} (hf : f5_moves_0 x1 v1 = some t) : Met l yX5_moves uX5_moves rm5_moves (va_Pc [.ref (ad 0), .int x1] (fun U => U.heap.size = sz ∧ mB D cI cZ ad v0 v1 v2 v3 v4 v5 v6 v7 v8 U)) (va_Qv (fun (_ : Unit) => True) (fun _ t9 => mB D cI cZ ad v0 t v2 v3 v4 v5 v6 v7 v8 t9) (mA ad sz)) 0 0 (mA ad sz) := by
  refine Met.ofW (cc := cX5_moves) (maxL := 7) (ret := none) (by decide) rfl ?_
  intro p e s m args below meth c s₁ B hml hv
  obtain ⟨rfl, hsz, hP, hK⟩ := hv
  subst hsz
  have X : mX D cI cZ p s m ([.ref (ad 0), .int x1] : List Value).toArray meth c cX5_moves 7 none := ⟨⟨B.exec, B.bytes, hml, findClass_of_methodNamed B.named, fun w h => atoms_spec (ws := uX5_moves) B.pre w (List.mem_cons_of_mem _ h)⟩, B.returns, B.notSynchronized, hK⟩
  have hl := lv_entry ([.ref (ad 0), .int x1]) (n := 7) (Nat.le_of_ble_eq_true rfl)
  rw [lg_entry_eq]
  generalize (lg_sl ([.ref (ad 0), .int x1]) ++ List.replicate (7 - (lg_sl ([.ref (ad 0), .int x1])).length) Slot.unset).toArray = ls at hl ⊢
  have hl : lv_has ls 7 [(0, .ref (ad 0)), (1, .int x1)] := hl
  exact w5_moves_0 X hI ⟨hP, va_S.rf⟩ (lv_sub hl [0, 1] rfl) hf
set_option maxRecDepth 100000 in
set_option maxHeartbeats 4000000 in
theorem k5_moves {p : Program} {l : Launch} {e : Env} {R : Room} {s : State} {m : MethodId} {args : Array Value} {below : List Frame} {meth : Method} {c : Code} {cc : ByteArray} {nL : Nat} {ret : Option FieldType} {D : va_G} {cI cZ : ClassId} {ad : Nat → Nat} {v0 v1 v2 v3 v4 v5 v6 v7 v8 : Nat → Int32} {H : Heap} {locs : List Loc} {cells slots : Nat} {Q : State → Prop} {pc : Nat} {ls : Array Slot} {rest : List Value} (X : mX D cI cZ p s m args meth c cc nL ret) (hI : mInj ad) (hH : mH D cI cZ ad v0 v1 v2 v3 v4 v5 v6 v7 v8 s H locs) (hls : ls.size = nL) {index : Nat} (hG : GoodIn gw (wsV RX5 index RX5 yX5_moves uX5_moves)) (hR : rm5_moves.frames + 1 ≤ R.frames ∧ 8 + (7 + 11) + rm5_moves.locals ≤ R.locals) {x1 : Int32} {t : (Nat → Int32)} (hf : f5_moves_0 x1 v1 = some t) (hrest : (rest.map fun v => v.category).sum ≤ 8) (hdg : decode cc pc = .ok (.invokevirtual index, 3)) (hc : cells ≤ R.cells ∧ slots ≤ R.slots) (kk : ∀ (H1 : Heap) (locs1 : List Loc), mH D cI cZ ad v0 t v2 v3 v4 v5 v6 v7 v8 s H1 locs1 → W p l e R s m args below meth c H1 locs1 cells slots Q (F0 m (pc + 3) ls (rest))) : W p l e R s m args below meth c H locs cells slots Q (F0 m pc ls (.int x1 :: .ref (ad 0) :: rest)) := by
  have hA : ∀ q, mA ad H.size q → mA ad s.heap.size q := fun q h => h.elim Or.inl (fun h => Or.inr (Nat.le_trans hH.2.1 h))
  refine va_callv (va_runV (As := [.int x1]) (rest := rest) X.1 (c5_moves l hI H.size x1 hf) (cwV 1 X.1.2.2.2.2 hG rfl rfl rfl (by decide +kernel) hR) ⟨mBs_bl, va_recv X.2.2.2 hH.1 (ci := 5) (q0 := 0) rfl rfl, fun U hU hW => ⟨rfl, by rw [hU], by rw [hU]; exact hH.1, va_K.moved hW.alike X.2.2.2⟩⟩ rfl rfl hls rfl (lv_room hrest) hdg hc) hH.2 (fun q _ h => hA q h) hA (fun u t9 H1 locs1 ht hvm hw hB hz1 hk1 hS => ?_)
  exact kk H1 locs1 ⟨by rw [← ht]; exact hB.1, hS⟩
/-! OreRailwayModel.tick()V -/
def rm5_tick : Room := { frames := 4, cells := 0, slots := 0, locals := 95 }
def f5_tick_224 (K88 : Int32 → (Nat → Int32) → (Nat → Int32) → (Nat → Int32) → (Option ((Nat → Int32) × (Nat → Int32) × (Nat → Int32)))) (x2 : Int32) (v1 : Nat → Int32) (v7 : Nat → Int32) (v8 : Nat → Int32) : Option ((Nat → Int32) × (Nat → Int32) × (Nat → Int32)) := K88 (x2 + 1) v1 v7 v8
set_option maxRecDepth 100000 in
set_option maxHeartbeats 4000000 in
theorem w5_tick_224 {p : Program} {l : Launch} {e : Env} {s : State} {m : MethodId} {args : Array Value} {below : List Frame} {meth : Method} {c : Code} {D : va_G} {cI cZ : ClassId} {ad : Nat → Nat} {v0 v1 v2 v3 v4 v5 v6 v7 v8 : Nat → Int32} (X : mX D cI cZ p s m args meth c cX5_tick 3 none) (hI : mInj ad) {x2 : Int32} {t : (Nat → Int32) × (Nat → Int32) × (Nat → Int32)} {K88 : Int32 → (Nat → Int32) → (Nat → Int32) → (Nat → Int32) → (Option ((Nat → Int32) × (Nat → Int32) × (Nat → Int32)))} (hK88 : ∀ (x2 : Int32) (v1 : Nat → Int32) (v7 : Nat → Int32) (v8 : Nat → Int32) (H : Heap) (locs : List Loc), mH D cI cZ ad v0 v1 v2 v3 v4 v5 v6 v7 v8 s H locs → ∀ (ls : Array Slot), lv_has ls 3 [(0, .ref (ad 0)), (2, .int x2)] → K88 x2 v1 v7 v8 = some t → W p l e rm5_tick s m args below meth c H locs 0 0 (MQ below (va_Qv (fun (_ : Unit) => True) (fun _ t9 => mB D cI cZ ad v0 t.1 v2 v3 v4 v5 v6 t.2.1 t.2.2 t9) (mA ad s.heap.size)) args s 0 0 (mA ad s.heap.size)) (F0 m 88 ls []))  {H : Heap} {locs : List Loc} (hH : mH D cI cZ ad v0 v1 v2 v3 v4 v5 v6 v7 v8 s H locs) {ls : Array Slot} (hl : lv_has ls 3 [(0, .ref (ad 0)), (2, .int x2)]) (hf : f5_tick_224 K88 x2 v1 v7 v8 = some t) : W p l e rm5_tick s m args below meth c H locs 0 0 (MQ below (va_Qv (fun (_ : Unit) => True) (fun _ t9 => mB D cI cZ ad v0 t.1 v2 v3 v4 v5 v6 t.2.1 t.2.2 t9) (mA ad s.heap.size)) args s 0 0 (mA ad s.heap.size)) (F0 m 224 ls []) := by
  obtain ⟨⟨hx, hb, hml, hown, hts⟩, hr, hlk, hK⟩ := id X
  replace hf : (K88 (x2 + 1) v1 v7 v8) = some t := hf
  refine lv_iinc (v := x2 + 1) (lv' := [(2, .int (x2 + 1)), (0, .ref (ad 0))]) hx hb dX5_tick_224 hl (k := 1) rfl rfl (by decide) rfl (fun ls hl => ?_)
  refine lv_goto (tgt := 88) hx hb dX5_tick_227 (by decide) ?_
  exact hK88 _ _ _ _ _ _ hH _ (lv_sub hl [1, 0] rfl) hf
def f5_tick_223 (K88 : Int32 → (Nat → Int32) → (Nat → Int32) → (Nat → Int32) → (Option ((Nat → Int32) × (Nat → Int32) × (Nat → Int32)))) (x2 : Int32) (y0 : Int32) (y1 : Int32) (v1 : Nat → Int32) (v7 : Nat → Int32) (v8 : Nat → Int32) : Option ((Nat → Int32) × (Nat → Int32) × (Nat → Int32)) := gd y1 171 (f5_tick_224 K88 x2 (upd v1 (Int32.toNatClampNeg y1) y0) v7 v8)
set_option maxRecDepth 100000 in
set_option maxHeartbeats 4000000 in
theorem w5_tick_223 {p : Program} {l : Launch} {e : Env} {s : State} {m : MethodId} {args : Array Value} {below : List Frame} {meth : Method} {c : Code} {D : va_G} {cI cZ : ClassId} {ad : Nat → Nat} {v0 v1 v2 v3 v4 v5 v6 v7 v8 : Nat → Int32} (X : mX D cI cZ p s m args meth c cX5_tick 3 none) (hI : mInj ad) {x2 : Int32} {y0 : Int32} {y1 : Int32} {t : (Nat → Int32) × (Nat → Int32) × (Nat → Int32)} {K88 : Int32 → (Nat → Int32) → (Nat → Int32) → (Nat → Int32) → (Option ((Nat → Int32) × (Nat → Int32) × (Nat → Int32)))} (hK88 : ∀ (x2 : Int32) (v1 : Nat → Int32) (v7 : Nat → Int32) (v8 : Nat → Int32) (H : Heap) (locs : List Loc), mH D cI cZ ad v0 v1 v2 v3 v4 v5 v6 v7 v8 s H locs → ∀ (ls : Array Slot), lv_has ls 3 [(0, .ref (ad 0)), (2, .int x2)] → K88 x2 v1 v7 v8 = some t → W p l e rm5_tick s m args below meth c H locs 0 0 (MQ below (va_Qv (fun (_ : Unit) => True) (fun _ t9 => mB D cI cZ ad v0 t.1 v2 v3 v4 v5 v6 t.2.1 t.2.2 t9) (mA ad s.heap.size)) args s 0 0 (mA ad s.heap.size)) (F0 m 88 ls []))  {H : Heap} {locs : List Loc} (hH : mH D cI cZ ad v0 v1 v2 v3 v4 v5 v6 v7 v8 s H locs) {ls : Array Slot} (hl : lv_has ls 3 [(0, .ref (ad 0)), (2, .int x2)]) (hf : f5_tick_223 K88 x2 y0 y1 v1 v7 v8 = some t) : W p l e rm5_tick s m args below meth c H locs 0 0 (MQ below (va_Qv (fun (_ : Unit) => True) (fun _ t9 => mB D cI cZ ad v0 t.1 v2 v3 v4 v5 v6 t.2.1 t.2.2 t9) (mA ad s.heap.size)) args s 0 0 (mA ad s.heap.size)) (F0 m 223 ls [.int y0, .int y1, .ref (ad 1)]) := by
  obtain ⟨⟨hx, hb, hml, hown, hts⟩, hr, hlk, hK⟩ := id X
  replace hf : (gd y1 171 (f5_tick_224 K88 x2 (upd v1 (Int32.toNatClampNeg y1) y0) v7 v8)) = some t := hf
  obtain ⟨hi1, hf⟩ := gd_o hf
  refine mr_st1 X hI hH hi1 dX5_tick_223 (fun H locs hH => ?_)
  exact w5_tick_224 X hI (K88 := K88) hK88 hH (lv_sub hl [0, 1] rfl) hf
def f5_tick_150 (K88 : Int32 → (Nat → Int32) → (Nat → Int32) → (Nat → Int32) → (Option ((Nat → Int32) × (Nat → Int32) × (Nat → Int32)))) (x2 : Int32) (y0 : Int32) (y1 : Int32) (v1 : Nat → Int32) (v7 : Nat → Int32) (v8 : Nat → Int32) : Option ((Nat → Int32) × (Nat → Int32) × (Nat → Int32)) := gd y1 171 (Option.bind (f5_isIn_0 (upd v1 (Int32.toNatClampNeg y1) y0) x2 4) (fun t2 => if t2 = 0 then (f5_tick_224 K88 x2 (upd v1 (Int32.toNatClampNeg y1) y0) v7 v8) else (gd (e5_of x2 4) 171 (gd 169 171 (Option.bind (f5_within_0 (((upd v1 (Int32.toNatClampNeg y1) y0) (Int32.toNatClampNeg (e5_of x2 4))) - ((upd v1 (Int32.toNatClampNeg y1) y0) (Int32.toNatClampNeg 169))) 0 300) (fun t6 => gd (e5_of x2 4) 171 (gd (e5_of x2 4) 171 (if ((upd (upd v1 (Int32.toNatClampNeg y1) y0) (Int32.toNatClampNeg (e5_of x2 4)) t6) (Int32.toNatClampNeg (e5_of x2 4))) = 0 then (f5_tick_223 K88 x2 0 (e5_of x2 0) (upd (upd v1 (Int32.toNatClampNeg y1) y0) (Int32.toNatClampNeg (e5_of x2 4)) t6) v7 v8) else (f5_tick_223 K88 x2 4 (e5_of x2 0) (upd (upd v1 (Int32.toNatClampNeg y1) y0) (Int32.toNatClampNeg (e5_of x2 4)) t6) v7 v8)))))))))
set_option maxRecDepth 100000 in
set_option maxHeartbeats 4000000 in
theorem w5_tick_150 {p : Program} {l : Launch} {e : Env} {s : State} {m : MethodId} {args : Array Value} {below : List Frame} {meth : Method} {c : Code} {D : va_G} {cI cZ : ClassId} {ad : Nat → Nat} {v0 v1 v2 v3 v4 v5 v6 v7 v8 : Nat → Int32} (X : mX D cI cZ p s m args meth c cX5_tick 3 none) (hI : mInj ad) {x2 : Int32} {y0 : Int32} {y1 : Int32} {t : (Nat → Int32) × (Nat → Int32) × (Nat → Int32)} {K88 : Int32 → (Nat → Int32) → (Nat → Int32) → (Nat → Int32) → (Option ((Nat → Int32) × (Nat → Int32) × (Nat → Int32)))} (hK88 : ∀ (x2 : Int32) (v1 : Nat → Int32) (v7 : Nat → Int32) (v8 : Nat → Int32) (H : Heap) (locs : List Loc), mH D cI cZ ad v0 v1 v2 v3 v4 v5 v6 v7 v8 s H locs → ∀ (ls : Array Slot), lv_has ls 3 [(0, .ref (ad 0)), (2, .int x2)] → K88 x2 v1 v7 v8 = some t → W p l e rm5_tick s m args below meth c H locs 0 0 (MQ below (va_Qv (fun (_ : Unit) => True) (fun _ t9 => mB D cI cZ ad v0 t.1 v2 v3 v4 v5 v6 t.2.1 t.2.2 t9) (mA ad s.heap.size)) args s 0 0 (mA ad s.heap.size)) (F0 m 88 ls []))  {H : Heap} {locs : List Loc} (hH : mH D cI cZ ad v0 v1 v2 v3 v4 v5 v6 v7 v8 s H locs) {ls : Array Slot} (hl : lv_has ls 3 [(0, .ref (ad 0)), (2, .int x2)]) (hf : f5_tick_150 K88 x2 y0 y1 v1 v7 v8 = some t) : W p l e rm5_tick s m args below meth c H locs 0 0 (MQ below (va_Qv (fun (_ : Unit) => True) (fun _ t9 => mB D cI cZ ad v0 t.1 v2 v3 v4 v5 v6 t.2.1 t.2.2 t9) (mA ad s.heap.size)) args s 0 0 (mA ad s.heap.size)) (F0 m 150 ls [.int y0, .int y1, .ref (ad 1)]) := by
  obtain ⟨⟨hx, hb, hml, hown, hts⟩, hr, hlk, hK⟩ := id X
  replace hf : (gd y1 171 (Option.bind (f5_isIn_0 (upd v1 (Int32.toNatClampNeg y1) y0) x2 4) (fun t2 => if t2 = 0 then (f5_tick_224 K88 x2 (upd v1 (Int32.toNatClampNeg y1) y0) v7 v8) else (gd (e5_of x2 4) 171 (gd 169 171 (Option.bind (f5_within_0 (((upd v1 (Int32.toNatClampNeg y1) y0) (Int32.toNatClampNeg (e5_of x2 4))) - ((upd v1 (Int32.toNatClampNeg y1) y0) (Int32.toNatClampNeg 169))) 0 300) (fun t6 => gd (e5_of x2 4) 171 (gd (e5_of x2 4) 171 (if ((upd (upd v1 (Int32.toNatClampNeg y1) y0) (Int32.toNatClampNeg (e5_of x2 4)) t6) (Int32.toNatClampNeg (e5_of x2 4))) = 0 then (f5_tick_223 K88 x2 0 (e5_of x2 0) (upd (upd v1 (Int32.toNatClampNeg y1) y0) (Int32.toNatClampNeg (e5_of x2 4)) t6) v7 v8) else (f5_tick_223 K88 x2 4 (e5_of x2 0) (upd (upd v1 (Int32.toNatClampNeg y1) y0) (Int32.toNatClampNeg (e5_of x2 4)) t6) v7 v8)))))))))) = some t := hf
  obtain ⟨hi1, hf⟩ := gd_o hf
  refine mr_st1 X hI hH hi1 dX5_tick_150 (fun H locs hH => ?_)
  refine lv_aload_n hx hb dX5_tick_151 rfl (lv_at hl 0 rfl) ?_
  refine lv_iload_n hx hb dX5_tick_152 rfl (lv_at hl 1 rfl) ?_
  refine lv_iconst (v := 4) hx hb dX5_tick_153 (by decide) ?_
  obtain ⟨t2, ht2, hf⟩ := bd_o hf
  refine k5_isIn X hH.1 hl.1 qX5_67 ⟨Nat.le_of_ble_eq_true rfl, Nat.le_of_ble_eq_true rfl⟩ ht2 (Nat.le_of_ble_eq_true rfl) dX5_tick_154 ⟨Nat.zero_le _, Nat.zero_le _⟩ ?_
  refine lv_if_eq (tgt := 224) hx hb dX5_tick_157 (by decide) (fun c3 => ?_) (fun c3 => ?_)
  · have hf := it_t c3 hf
    exact w5_tick_224 X hI (K88 := K88) hK88 hH (lv_sub hl [0, 1] rfl) hf
  · have hf := it_f c3 hf
    refine lv_aload_n hx hb dX5_tick_160 rfl (lv_at hl 0 rfl) ?_
    refine mr_get X hH.1 (k := 0) (v := .ref (ad 1)) (by decide) gfX5_7 rfl dX5_tick_161 ?_
    refine lv_iload_n hx hb dX5_tick_164 rfl (lv_at hl 1 rfl) ?_
    refine lv_iconst (v := 4) hx hb dX5_tick_165 (by decide) ?_
    refine k5_of X.1 hl.1 qX5_43 ⟨Nat.le_of_ble_eq_true rfl, Nat.le_of_ble_eq_true rfl⟩ (Nat.le_of_ble_eq_true rfl) dX5_tick_166 ⟨Nat.zero_le _, Nat.zero_le _⟩ ?_
    refine lv_aload_n hx hb dX5_tick_169 rfl (lv_at hl 0 rfl) ?_
    refine mr_get X hH.1 (k := 0) (v := .ref (ad 1)) (by decide) gfX5_7 rfl dX5_tick_170 ?_
    refine lv_iload_n hx hb dX5_tick_173 rfl (lv_at hl 1 rfl) ?_
    refine lv_iconst (v := 4) hx hb dX5_tick_174 (by decide) ?_
    refine k5_of X.1 hl.1 qX5_43 ⟨Nat.le_of_ble_eq_true rfl, Nat.le_of_ble_eq_true rfl⟩ (Nat.le_of_ble_eq_true rfl) dX5_tick_175 ⟨Nat.zero_le _, Nat.zero_le _⟩ ?_
    obtain ⟨hi4, hf⟩ := gd_o hf
    refine mr_ld1 X hH.1 hi4 dX5_tick_178 ?_
    refine lv_aload_n hx hb dX5_tick_179 rfl (lv_at hl 0 rfl) ?_
    refine mr_get X hH.1 (k := 0) (v := .ref (ad 1)) (by decide) gfX5_7 rfl dX5_tick_180 ?_
    refine lv_sipush (v := 169) hx hb dX5_tick_183 (by decide) ?_
    obtain ⟨hi5, hf⟩ := gd_o hf
    refine mr_ld1 X hH.1 hi5 dX5_tick_186 ?_
    refine lv_isub hx hb dX5_tick_187 ?_
    refine lv_iconst (v := 0) hx hb dX5_tick_188 (by decide) ?_
    refine lv_sipush (v := 300) hx hb dX5_tick_189 (by decide) ?_
    obtain ⟨t6, ht6, hf⟩ := bd_o hf
    refine k5_within X.1 hl.1 qX5_117 ⟨Nat.le_of_ble_eq_true rfl, Nat.le_of_ble_eq_true rfl⟩ ht6 (Nat.le_of_ble_eq_true rfl) dX5_tick_192 ⟨Nat.zero_le _, Nat.zero_le _⟩ ?_
    obtain ⟨hi7, hf⟩ := gd_o hf
    refine mr_st1 X hI hH hi7 dX5_tick_195 (fun H locs hH => ?_)
    refine lv_aload_n hx hb dX5_tick_196 rfl (lv_at hl 0 rfl) ?_
    refine mr_get X hH.1 (k := 0) (v := .ref (ad 1)) (by decide) gfX5_7 rfl dX5_tick_197 ?_
    refine lv_iload_n hx hb dX5_tick_200 rfl (lv_at hl 1 rfl) ?_
    refine lv_iconst (v := 0) hx hb dX5_tick_201 (by decide) ?_
    refine k5_of X.1 hl.1 qX5_43 ⟨Nat.le_of_ble_eq_true rfl, Nat.le_of_ble_eq_true rfl⟩ (Nat.le_of_ble_eq_true rfl) dX5_tick_202 ⟨Nat.zero_le _, Nat.zero_le _⟩ ?_
    refine lv_aload_n hx hb dX5_tick_205 rfl (lv_at hl 0 rfl) ?_
    refine mr_get X hH.1 (k := 0) (v := .ref (ad 1)) (by decide) gfX5_7 rfl dX5_tick_206 ?_
    refine lv_iload_n hx hb dX5_tick_209 rfl (lv_at hl 1 rfl) ?_
    refine lv_iconst (v := 4) hx hb dX5_tick_210 (by decide) ?_
    refine k5_of X.1 hl.1 qX5_43 ⟨Nat.le_of_ble_eq_true rfl, Nat.le_of_ble_eq_true rfl⟩ (Nat.le_of_ble_eq_true rfl) dX5_tick_211 ⟨Nat.zero_le _, Nat.zero_le _⟩ ?_
    obtain ⟨hi8, hf⟩ := gd_o hf
    refine mr_ld1 X hH.1 hi8 dX5_tick_214 ?_
    refine lv_if_ne (tgt := 222) hx hb dX5_tick_215 (by decide) (fun c9 => ?_) (fun c9 => ?_)
    · have hf := it_f c9 hf
      refine lv_iconst (v := 4) hx hb dX5_tick_222 (by decide) ?_
      exact w5_tick_223 X hI (K88 := K88) hK88 hH (lv_sub hl [0, 1] rfl) hf
    · have hf := it_t c9 hf
      refine lv_iconst (v := 0) hx hb dX5_tick_218 (by decide) ?_
      refine lv_goto (tgt := 223) hx hb dX5_tick_219 (by decide) ?_
      exact w5_tick_223 X hI (K88 := K88) hK88 hH (lv_sub hl [0, 1] rfl) hf
def f5_tick_88 : Nat → Int32 → (Nat → Int32) → (Nat → Int32) → (Nat → Int32) → Option ((Nat → Int32) × (Nat → Int32) × (Nat → Int32))
  | 0, _, _, _, _ => none
  | n + 1, x2, v1, v7, v8 => gd 162 171 (if (v1 (Int32.toNatClampNeg 162)) ≤ x2 then (some (v1, v7, v8)) else (gd x2 8 (if (v8 (Int32.toNatClampNeg x2)) = 0 then (gd (e5_of x2 5) 171 (Option.bind (f5_within_0 ((v1 (Int32.toNatClampNeg (e5_of x2 5))) - 5) 0 200) (fun t6 => f5_tick_150 (f5_tick_88 n) x2 t6 (e5_of x2 5) v1 v7 v8))) else (gd (e5_of x2 5) 171 (f5_tick_150 (f5_tick_88 n) x2 (v1 (Int32.toNatClampNeg (e5_of x2 5))) (e5_of x2 5) v1 v7 v8)))))
set_option maxRecDepth 100000 in
set_option maxHeartbeats 4000000 in
theorem w5_tick_88 {p : Program} {l : Launch} {e : Env} {s : State} {m : MethodId} {args : Array Value} {below : List Frame} {meth : Method} {c : Code} {D : va_G} {cI cZ : ClassId} {ad : Nat → Nat} {v0 v2 v3 v4 v5 v6 : Nat → Int32} (X : mX D cI cZ p s m args meth c cX5_tick 3 none) (hI : mInj ad) {t : (Nat → Int32) × (Nat → Int32) × (Nat → Int32)} :
    ∀ (n : Nat) (x2 : Int32) (v1 : Nat → Int32) (v7 : Nat → Int32) (v8 : Nat → Int32) (H : Heap) (locs : List Loc), mH D cI cZ ad v0 v1 v2 v3 v4 v5 v6 v7 v8 s H locs → ∀ (ls : Array Slot), lv_has ls 3 [(0, .ref (ad 0)), (2, .int x2)] → f5_tick_88 n x2 v1 v7 v8 = some t → W p l e rm5_tick s m args below meth c H locs 0 0 (MQ below (va_Qv (fun (_ : Unit) => True) (fun _ t9 => mB D cI cZ ad v0 t.1 v2 v3 v4 v5 v6 t.2.1 t.2.2 t9) (mA ad s.heap.size)) args s 0 0 (mA ad s.heap.size)) (F0 m 88 ls []) := by
  obtain ⟨⟨hx, hb, hml, hown, hts⟩, hr, hlk, hK⟩ := id X
  intro n
  induction n with
  | zero =>
    intro x2 v1 v7 v8 H locs hH ls hl hf
    cases hf
  | succ n ih =>
    intro x2 v1 v7 v8 H locs hH ls hl hf
    replace hf : (gd 162 171 (if (v1 (Int32.toNatClampNeg 162)) ≤ x2 then (some (v1, v7, v8)) else (gd x2 8 (if (v8 (Int32.toNatClampNeg x2)) = 0 then (gd (e5_of x2 5) 171 (Option.bind (f5_within_0 ((v1 (Int32.toNatClampNeg (e5_of x2 5))) - 5) 0 200) (fun t6 => f5_tick_150 (f5_tick_88 n) x2 t6 (e5_of x2 5) v1 v7 v8))) else (gd (e5_of x2 5) 171 (f5_tick_150 (f5_tick_88 n) x2 (v1 (Int32.toNatClampNeg (e5_of x2 5))) (e5_of x2 5) v1 v7 v8)))))) = some t := hf
    refine lv_iload_n hx hb dX5_tick_88 rfl (lv_at hl 1 rfl) ?_
    refine lv_aload_n hx hb dX5_tick_89 rfl (lv_at hl 0 rfl) ?_
    refine mr_get X hH.1 (k := 0) (v := .ref (ad 1)) (by decide) gfX5_7 rfl dX5_tick_90 ?_
    refine lv_sipush (v := 162) hx hb dX5_tick_93 (by decide) ?_
    obtain ⟨hi1, hf⟩ := gd_o hf
    refine mr_ld1 X hH.1 hi1 dX5_tick_96 ?_
    refine lv_icmp_ge (tgt := 230) hx hb dX5_tick_97 (by decide) (fun c2 => ?_) (fun c2 => ?_)
    · have hf := it_t c2 hf
      obtain rfl := so_i hf
      exact mr_vw X hH rfl dX5_tick_230
    · have hf := it_f c2 hf
      refine lv_aload_n hx hb dX5_tick_100 rfl (lv_at hl 0 rfl) ?_
      refine mr_get X hH.1 (k := 0) (v := .ref (ad 1)) (by decide) gfX5_7 rfl dX5_tick_101 ?_
      refine lv_iload_n hx hb dX5_tick_104 rfl (lv_at hl 1 rfl) ?_
      refine lv_iconst (v := 5) hx hb dX5_tick_105 (by decide) ?_
      refine k5_of X.1 hl.1 qX5_43 ⟨Nat.le_of_ble_eq_true rfl, Nat.le_of_ble_eq_true rfl⟩ (Nat.le_of_ble_eq_true rfl) dX5_tick_106 ⟨Nat.zero_le _, Nat.zero_le _⟩ ?_
      refine lv_aload_n hx hb dX5_tick_109 rfl (lv_at hl 0 rfl) ?_
      refine mr_get X hH.1 (k := 10) (v := .ref (ad 8)) (by decide) gfX5_32 rfl dX5_tick_110 ?_
      refine lv_iload_n hx hb dX5_tick_113 rfl (lv_at hl 1 rfl) ?_
      obtain ⟨hi3, hf⟩ := gd_o hf
      refine mr_ld8 X hH.1 hi3 dX5_tick_114 ?_
      refine lv_if_eq (tgt := 131) hx hb dX5_tick_115 (by decide) (fun c4 => ?_) (fun c4 => ?_)
      · have hf := it_t c4 hf
        refine lv_aload_n hx hb dX5_tick_131 rfl (lv_at hl 0 rfl) ?_
        refine mr_get X hH.1 (k := 0) (v := .ref (ad 1)) (by decide) gfX5_7 rfl dX5_tick_132 ?_
        refine lv_iload_n hx hb dX5_tick_135 rfl (lv_at hl 1 rfl) ?_
        refine lv_iconst (v := 5) hx hb dX5_tick_136 (by decide) ?_
        refine k5_of X.1 hl.1 qX5_43 ⟨Nat.le_of_ble_eq_true rfl, Nat.le_of_ble_eq_true rfl⟩ (Nat.le_of_ble_eq_true rfl) dX5_tick_137 ⟨Nat.zero_le _, Nat.zero_le _⟩ ?_
        obtain ⟨hi5, hf⟩ := gd_o hf
        refine mr_ld1 X hH.1 hi5 dX5_tick_140 ?_
        refine lv_iconst (v := 5) hx hb dX5_tick_141 (by decide) ?_
        refine lv_isub hx hb dX5_tick_142 ?_
        refine lv_iconst (v := 0) hx hb dX5_tick_143 (by decide) ?_
        refine lv_sipush (v := 200) hx hb dX5_tick_144 (by decide) ?_
        obtain ⟨t6, ht6, hf⟩ := bd_o hf
        refine k5_within X.1 hl.1 qX5_117 ⟨Nat.le_of_ble_eq_true rfl, Nat.le_of_ble_eq_true rfl⟩ ht6 (Nat.le_of_ble_eq_true rfl) dX5_tick_147 ⟨Nat.zero_le _, Nat.zero_le _⟩ ?_
        exact w5_tick_150 X hI (K88 := (f5_tick_88 n)) ih hH (lv_sub hl [0, 1] rfl) hf
      · have hf := it_f c4 hf
        refine lv_aload_n hx hb dX5_tick_118 rfl (lv_at hl 0 rfl) ?_
        refine mr_get X hH.1 (k := 0) (v := .ref (ad 1)) (by decide) gfX5_7 rfl dX5_tick_119 ?_
        refine lv_iload_n hx hb dX5_tick_122 rfl (lv_at hl 1 rfl) ?_
        refine lv_iconst (v := 5) hx hb dX5_tick_123 (by decide) ?_
        refine k5_of X.1 hl.1 qX5_43 ⟨Nat.le_of_ble_eq_true rfl, Nat.le_of_ble_eq_true rfl⟩ (Nat.le_of_ble_eq_true rfl) dX5_tick_124 ⟨Nat.zero_le _, Nat.zero_le _⟩ ?_
        obtain ⟨hi7, hf⟩ := gd_o hf
        refine mr_ld1 X hH.1 hi7 dX5_tick_127 ?_
        refine lv_goto (tgt := 150) hx hb dX5_tick_128 (by decide) ?_
        exact w5_tick_150 X hI (K88 := (f5_tick_88 n)) ih hH (lv_sub hl [0, 1] rfl) hf
def f5_tick_65 : Nat → Int32 → Int32 → (Nat → Int32) → (Nat → Int32) → (Nat → Int32) → Option ((Nat → Int32) × (Nat → Int32) × (Nat → Int32))
  | 0, _, _, _, _, _ => none
  | n + 1, x1, x2, v1, v7, v8 => if x1 ≤ x2 then (f5_tick_88 fu 0 v1 v7 v8) else (gd x2 8 (Option.bind (f5_moves_0 (v7 (Int32.toNatClampNeg x2)) v1) (fun t3 => (f5_tick_65 n) x1 (x2 + 1) t3 v7 v8)))
set_option maxRecDepth 100000 in
set_option maxHeartbeats 4000000 in
theorem w5_tick_65 {p : Program} {l : Launch} {e : Env} {s : State} {m : MethodId} {args : Array Value} {below : List Frame} {meth : Method} {c : Code} {D : va_G} {cI cZ : ClassId} {ad : Nat → Nat} {v0 v2 v3 v4 v5 v6 : Nat → Int32} (X : mX D cI cZ p s m args meth c cX5_tick 3 none) (hI : mInj ad) {t : (Nat → Int32) × (Nat → Int32) × (Nat → Int32)} :
    ∀ (n : Nat) (x1 : Int32) (x2 : Int32) (v1 : Nat → Int32) (v7 : Nat → Int32) (v8 : Nat → Int32) (H : Heap) (locs : List Loc), mH D cI cZ ad v0 v1 v2 v3 v4 v5 v6 v7 v8 s H locs → ∀ (ls : Array Slot), lv_has ls 3 [(0, .ref (ad 0)), (1, .int x1), (2, .int x2)] → f5_tick_65 n x1 x2 v1 v7 v8 = some t → W p l e rm5_tick s m args below meth c H locs 0 0 (MQ below (va_Qv (fun (_ : Unit) => True) (fun _ t9 => mB D cI cZ ad v0 t.1 v2 v3 v4 v5 v6 t.2.1 t.2.2 t9) (mA ad s.heap.size)) args s 0 0 (mA ad s.heap.size)) (F0 m 65 ls []) := by
  obtain ⟨⟨hx, hb, hml, hown, hts⟩, hr, hlk, hK⟩ := id X
  intro n
  induction n with
  | zero =>
    intro x1 x2 v1 v7 v8 H locs hH ls hl hf
    cases hf
  | succ n ih =>
    intro x1 x2 v1 v7 v8 H locs hH ls hl hf
    replace hf : (if x1 ≤ x2 then (f5_tick_88 fu 0 v1 v7 v8) else (gd x2 8 (Option.bind (f5_moves_0 (v7 (Int32.toNatClampNeg x2)) v1) (fun t3 => (f5_tick_65 n) x1 (x2 + 1) t3 v7 v8)))) = some t := hf
    refine lv_iload_n hx hb dX5_tick_65 rfl (lv_at hl 2 rfl) ?_
    refine lv_iload_n hx hb dX5_tick_66 rfl (lv_at hl 1 rfl) ?_
    refine lv_icmp_ge (tgt := 86) hx hb dX5_tick_67 (by decide) (fun c1 => ?_) (fun c1 => ?_)
    · have hf := it_t c1 hf
      refine lv_iconst (v := 0) hx hb dX5_tick_86 (by decide) ?_
      refine lv_istore_n (lv' := [(2, .int 0), (0, .ref (ad 0)), (1, .int x1)]) hx hb dX5_tick_87 rfl hl (by decide) rfl (fun ls hl => ?_)
      exact w5_tick_88 X hI _ _ _ _ _ _ _ hH _ (lv_sub hl [1, 0] rfl) hf
    · have hf := it_f c1 hf
      refine lv_aload_n hx hb dX5_tick_70 rfl (lv_at hl 0 rfl) ?_
      refine lv_aload_n hx hb dX5_tick_71 rfl (lv_at hl 0 rfl) ?_
      refine mr_get X hH.1 (k := 9) (v := .ref (ad 7)) (by decide) gfX5_29 rfl dX5_tick_72 ?_
      refine lv_iload_n hx hb dX5_tick_75 rfl (lv_at hl 2 rfl) ?_
      obtain ⟨hi2, hf⟩ := gd_o hf
      refine mr_ld7 X hH.1 hi2 dX5_tick_76 ?_
      obtain ⟨t3, ht3, hf⟩ := bd_o hf
      refine k5_moves X hI hH hl.1 qX5_131 ⟨Nat.le_of_ble_eq_true rfl, Nat.le_of_ble_eq_true rfl⟩ ht3 (Nat.le_of_ble_eq_true rfl) dX5_tick_77 ⟨Nat.zero_le _, Nat.zero_le _⟩ (fun H locs hH => ?_)
      refine lv_iinc (v := x2 + 1) (lv' := [(2, .int (x2 + 1)), (0, .ref (ad 0)), (1, .int x1)]) hx hb dX5_tick_80 hl (k := 2) rfl rfl (by decide) rfl (fun ls hl => ?_)
      refine lv_goto (tgt := 65) hx hb dX5_tick_83 (by decide) ?_
      exact ih _ _ _ _ _ _ _ hH _ (lv_sub hl [1, 2, 0] rfl) hf
def f5_tick_40 : Nat → Int32 → Int32 → (Nat → Int32) → (Nat → Int32) → (Nat → Int32) → Option ((Nat → Int32) × (Nat → Int32) × (Nat → Int32))
  | 0, _, _, _, _, _ => none
  | n + 1, x1, x2, v1, v7, v8 => if x1 ≤ x2 then (f5_tick_65 fu x1 0 v1 v7 v8) else (gd x2 8 (gd (v7 (Int32.toNatClampNeg x2)) 8 ((f5_tick_40 n) x1 (x2 + 1) v1 v7 (upd v8 (Int32.toNatClampNeg (v7 (Int32.toNatClampNeg x2))) (vp_nar .boolean 1)))))
set_option maxRecDepth 100000 in
set_option maxHeartbeats 4000000 in
theorem w5_tick_40 {p : Program} {l : Launch} {e : Env} {s : State} {m : MethodId} {args : Array Value} {below : List Frame} {meth : Method} {c : Code} {D : va_G} {cI cZ : ClassId} {ad : Nat → Nat} {v0 v2 v3 v4 v5 v6 : Nat → Int32} (X : mX D cI cZ p s m args meth c cX5_tick 3 none) (hI : mInj ad) {t : (Nat → Int32) × (Nat → Int32) × (Nat → Int32)} :
    ∀ (n : Nat) (x1 : Int32) (x2 : Int32) (v1 : Nat → Int32) (v7 : Nat → Int32) (v8 : Nat → Int32) (H : Heap) (locs : List Loc), mH D cI cZ ad v0 v1 v2 v3 v4 v5 v6 v7 v8 s H locs → ∀ (ls : Array Slot), lv_has ls 3 [(0, .ref (ad 0)), (1, .int x1), (2, .int x2)] → f5_tick_40 n x1 x2 v1 v7 v8 = some t → W p l e rm5_tick s m args below meth c H locs 0 0 (MQ below (va_Qv (fun (_ : Unit) => True) (fun _ t9 => mB D cI cZ ad v0 t.1 v2 v3 v4 v5 v6 t.2.1 t.2.2 t9) (mA ad s.heap.size)) args s 0 0 (mA ad s.heap.size)) (F0 m 40 ls []) := by
  obtain ⟨⟨hx, hb, hml, hown, hts⟩, hr, hlk, hK⟩ := id X
  intro n
  induction n with
  | zero =>
    intro x1 x2 v1 v7 v8 H locs hH ls hl hf
    cases hf
  | succ n ih =>
    intro x1 x2 v1 v7 v8 H locs hH ls hl hf
    replace hf : (if x1 ≤ x2 then (f5_tick_65 fu x1 0 v1 v7 v8) else (gd x2 8 (gd (v7 (Int32.toNatClampNeg x2)) 8 ((f5_tick_40 n) x1 (x2 + 1) v1 v7 (upd v8 (Int32.toNatClampNeg (v7 (Int32.toNatClampNeg x2))) (vp_nar .boolean 1)))))) = some t := hf
    refine lv_iload_n hx hb dX5_tick_40 rfl (lv_at hl 2 rfl) ?_
    refine lv_iload_n hx hb dX5_tick_41 rfl (lv_at hl 1 rfl) ?_
    refine lv_icmp_ge (tgt := 63) hx hb dX5_tick_42 (by decide) (fun c1 => ?_) (fun c1 => ?_)
    · have hf := it_t c1 hf
      refine lv_iconst (v := 0) hx hb dX5_tick_63 (by decide) ?_
      refine lv_istore_n (lv' := [(2, .int 0), (0, .ref (ad 0)), (1, .int x1)]) hx hb dX5_tick_64 rfl hl (by decide) rfl (fun ls hl => ?_)
      exact w5_tick_65 X hI _ _ _ _ _ _ _ _ hH _ (lv_sub hl [1, 2, 0] rfl) hf
    · have hf := it_f c1 hf
      refine lv_aload_n hx hb dX5_tick_45 rfl (lv_at hl 0 rfl) ?_
      refine mr_get X hH.1 (k := 10) (v := .ref (ad 8)) (by decide) gfX5_32 rfl dX5_tick_46 ?_
      refine lv_aload_n hx hb dX5_tick_49 rfl (lv_at hl 0 rfl) ?_
      refine mr_get X hH.1 (k := 9) (v := .ref (ad 7)) (by decide) gfX5_29 rfl dX5_tick_50 ?_
      refine lv_iload_n hx hb dX5_tick_53 rfl (lv_at hl 2 rfl) ?_
      obtain ⟨hi2, hf⟩ := gd_o hf
      refine mr_ld7 X hH.1 hi2 dX5_tick_54 ?_
      refine lv_iconst (v := 1) hx hb dX5_tick_55 (by decide) ?_
      obtain ⟨hi3, hf⟩ := gd_o hf
      refine mr_st8 X hI hH hi3 dX5_tick_56 (fun H locs hH => ?_)
      refine lv_iinc (v := x2 + 1) (lv' := [(2, .int (x2 + 1)), (0, .ref (ad 0)), (1, .int x1)]) hx hb dX5_tick_57 hl (k := 2) rfl rfl (by decide) rfl (fun ls hl => ?_)
      refine lv_goto (tgt := 40) hx hb dX5_tick_60 (by decide) ?_
      exact ih _ _ _ _ _ _ _ hH _ (lv_sub hl [1, 2, 0] rfl) hf
def f5_tick_19 : Nat → Int32 → Int32 → (Nat → Int32) → (Nat → Int32) → (Nat → Int32) → Option ((Nat → Int32) × (Nat → Int32) × (Nat → Int32))
  | 0, _, _, _, _, _ => none
  | n + 1, x1, x2, v1, v7, v8 => if 8 ≤ x2 then (f5_tick_40 fu x1 0 v1 v7 v8) else (gd x2 8 ((f5_tick_19 n) x1 (x2 + 1) v1 v7 (upd v8 (Int32.toNatClampNeg x2) (vp_nar .boolean 0))))
set_option maxRecDepth 100000 in
set_option maxHeartbeats 4000000 in
theorem w5_tick_19 {p : Program} {l : Launch} {e : Env} {s : State} {m : MethodId} {args : Array Value} {below : List Frame} {meth : Method} {c : Code} {D : va_G} {cI cZ : ClassId} {ad : Nat → Nat} {v0 v2 v3 v4 v5 v6 : Nat → Int32} (X : mX D cI cZ p s m args meth c cX5_tick 3 none) (hI : mInj ad) {t : (Nat → Int32) × (Nat → Int32) × (Nat → Int32)} :
    ∀ (n : Nat) (x1 : Int32) (x2 : Int32) (v1 : Nat → Int32) (v7 : Nat → Int32) (v8 : Nat → Int32) (H : Heap) (locs : List Loc), mH D cI cZ ad v0 v1 v2 v3 v4 v5 v6 v7 v8 s H locs → ∀ (ls : Array Slot), lv_has ls 3 [(0, .ref (ad 0)), (1, .int x1), (2, .int x2)] → f5_tick_19 n x1 x2 v1 v7 v8 = some t → W p l e rm5_tick s m args below meth c H locs 0 0 (MQ below (va_Qv (fun (_ : Unit) => True) (fun _ t9 => mB D cI cZ ad v0 t.1 v2 v3 v4 v5 v6 t.2.1 t.2.2 t9) (mA ad s.heap.size)) args s 0 0 (mA ad s.heap.size)) (F0 m 19 ls []) := by
  obtain ⟨⟨hx, hb, hml, hown, hts⟩, hr, hlk, hK⟩ := id X
  intro n
  induction n with
  | zero =>
    intro x1 x2 v1 v7 v8 H locs hH ls hl hf
    cases hf
  | succ n ih =>
    intro x1 x2 v1 v7 v8 H locs hH ls hl hf
    replace hf : (if 8 ≤ x2 then (f5_tick_40 fu x1 0 v1 v7 v8) else (gd x2 8 ((f5_tick_19 n) x1 (x2 + 1) v1 v7 (upd v8 (Int32.toNatClampNeg x2) (vp_nar .boolean 0))))) = some t := hf
    refine lv_iload_n hx hb dX5_tick_19 rfl (lv_at hl 2 rfl) ?_
    refine lv_bipush (v := 8) hx hb dX5_tick_20 (by decide) ?_
    refine lv_icmp_ge (tgt := 38) hx hb dX5_tick_22 (by decide) (fun c1 => ?_) (fun c1 => ?_)
    · have hf := it_t c1 hf
      refine lv_iconst (v := 0) hx hb dX5_tick_38 (by decide) ?_
      refine lv_istore_n (lv' := [(2, .int 0), (0, .ref (ad 0)), (1, .int x1)]) hx hb dX5_tick_39 rfl hl (by decide) rfl (fun ls hl => ?_)
      exact w5_tick_40 X hI _ _ _ _ _ _ _ _ hH _ (lv_sub hl [1, 2, 0] rfl) hf
    · have hf := it_f c1 hf
      refine lv_aload_n hx hb dX5_tick_25 rfl (lv_at hl 0 rfl) ?_
      refine mr_get X hH.1 (k := 10) (v := .ref (ad 8)) (by decide) gfX5_32 rfl dX5_tick_26 ?_
      refine lv_iload_n hx hb dX5_tick_29 rfl (lv_at hl 2 rfl) ?_
      refine lv_iconst (v := 0) hx hb dX5_tick_30 (by decide) ?_
      obtain ⟨hi2, hf⟩ := gd_o hf
      refine mr_st8 X hI hH hi2 dX5_tick_31 (fun H locs hH => ?_)
      refine lv_iinc (v := x2 + 1) (lv' := [(2, .int (x2 + 1)), (0, .ref (ad 0)), (1, .int x1)]) hx hb dX5_tick_32 hl (k := 2) rfl rfl (by decide) rfl (fun ls hl => ?_)
      refine lv_goto (tgt := 19) hx hb dX5_tick_35 (by decide) ?_
      exact ih _ _ _ _ _ _ _ hH _ (lv_sub hl [1, 2, 0] rfl) hf
def f5_tick_0 (v1 : Nat → Int32) (v7 : Nat → Int32) (v8 : Nat → Int32) : Option ((Nat → Int32) × (Nat → Int32) × (Nat → Int32)) := gd 163 171 (gd 163 171 (Option.bind (f5_notes_0 (upd v1 (Int32.toNatClampNeg 163) ((v1 (Int32.toNatClampNeg 163)) + 1)) v7) (fun t3 => f5_tick_19 fu t3.1 0 (upd v1 (Int32.toNatClampNeg 163) ((v1 (Int32.toNatClampNeg 163)) + 1)) t3.2 v8)))
set_option maxRecDepth 100000 in
set_option maxHeartbeats 4000000 in
theorem w5_tick_0 {p : Program} {l : Launch} {e : Env} {s : State} {m : MethodId} {args : Array Value} {below : List Frame} {meth : Method} {c : Code} {D : va_G} {cI cZ : ClassId} {ad : Nat → Nat} {v0 v1 v2 v3 v4 v5 v6 v7 v8 : Nat → Int32} (X : mX D cI cZ p s m args meth c cX5_tick 3 none) (hI : mInj ad) {t : (Nat → Int32) × (Nat → Int32) × (Nat → Int32)}  {H : Heap} {locs : List Loc} (hH : mH D cI cZ ad v0 v1 v2 v3 v4 v5 v6 v7 v8 s H locs) {ls : Array Slot} (hl : lv_has ls 3 [(0, .ref (ad 0))]) (hf : f5_tick_0 v1 v7 v8 = some t) : W p l e rm5_tick s m args below meth c H locs 0 0 (MQ below (va_Qv (fun (_ : Unit) => True) (fun _ t9 => mB D cI cZ ad v0 t.1 v2 v3 v4 v5 v6 t.2.1 t.2.2 t9) (mA ad s.heap.size)) args s 0 0 (mA ad s.heap.size)) (F0 m 0 ls []) := by
  obtain ⟨⟨hx, hb, hml, hown, hts⟩, hr, hlk, hK⟩ := id X
  replace hf : (gd 163 171 (gd 163 171 (Option.bind (f5_notes_0 (upd v1 (Int32.toNatClampNeg 163) ((v1 (Int32.toNatClampNeg 163)) + 1)) v7) (fun t3 => f5_tick_19 fu t3.1 0 (upd v1 (Int32.toNatClampNeg 163) ((v1 (Int32.toNatClampNeg 163)) + 1)) t3.2 v8)))) = some t := hf
  refine lv_aload_n hx hb dX5_tick_0 rfl (lv_at hl 0 rfl) ?_
  refine mr_get X hH.1 (k := 0) (v := .ref (ad 1)) (by decide) gfX5_7 rfl dX5_tick_1 ?_
  refine lv_sipush (v := 163) hx hb dX5_tick_4 (by decide) ?_
  refine lv_dup2_11 hx hb dX5_tick_7 rfl rfl ?_
  obtain ⟨hi1, hf⟩ := gd_o hf
  refine mr_ld1 X hH.1 hi1 dX5_tick_8 ?_
  refine lv_iconst (v := 1) hx hb dX5_tick_9 (by decide) ?_
  refine lv_iadd hx hb dX5_tick_10 ?_
  obtain ⟨hi2, hf⟩ := gd_o hf
  refine mr_st1 X hI hH hi2 dX5_tick_11 (fun H locs hH => ?_)
  refine lv_aload_n hx hb dX5_tick_12 rfl (lv_at hl 0 rfl) ?_
  obtain ⟨t3, ht3, hf⟩ := bd_o hf
  refine k5_notes X hI hH hl.1 qX5_128 ⟨Nat.le_of_ble_eq_true rfl, Nat.le_of_ble_eq_true rfl⟩ ht3 (Nat.le_of_ble_eq_true rfl) dX5_tick_13 ⟨Nat.zero_le _, Nat.zero_le _⟩ (fun H locs hH => ?_)
  refine lv_istore_n (lv' := [(1, .int t3.1), (0, .ref (ad 0))]) hx hb dX5_tick_16 rfl hl (by decide) rfl (fun ls hl => ?_)
  refine lv_iconst (v := 0) hx hb dX5_tick_17 (by decide) ?_
  refine lv_istore_n (lv' := [(2, .int 0), (1, .int t3.1), (0, .ref (ad 0))]) hx hb dX5_tick_18 rfl hl (by decide) rfl (fun ls hl => ?_)
  exact w5_tick_19 X hI _ _ _ _ _ _ _ _ hH _ (lv_sub hl [2, 1, 0] rfl) hf
set_option maxRecDepth 100000 in
set_option maxHeartbeats 4000000 in
theorem c5_tick (l : Launch) {D : va_G} {cI cZ : ClassId} {ad : Nat → Nat} {v0 v1 v2 v3 v4 v5 v6 v7 v8 : Nat → Int32} (hI : mInj ad) (sz : Nat) {t : (Nat → Int32) × (Nat → Int32) × (Nat → Int32)} (hf : f5_tick_0 v1 v7 v8 = some t) : Met l yX5_tick uX5_tick rm5_tick (va_Pc [.ref (ad 0)] (fun U => U.heap.size = sz ∧ mB D cI cZ ad v0 v1 v2 v3 v4 v5 v6 v7 v8 U)) (va_Qv (fun (_ : Unit) => True) (fun _ t9 => mB D cI cZ ad v0 t.1 v2 v3 v4 v5 v6 t.2.1 t.2.2 t9) (mA ad sz)) 0 0 (mA ad sz) := by
  refine Met.ofW (cc := cX5_tick) (maxL := 3) (ret := none) (by decide) rfl ?_
  intro p e s m args below meth c s₁ B hml hv
  obtain ⟨rfl, hsz, hP, hK⟩ := hv
  subst hsz
  have X : mX D cI cZ p s m ([.ref (ad 0)] : List Value).toArray meth c cX5_tick 3 none := ⟨⟨B.exec, B.bytes, hml, findClass_of_methodNamed B.named, fun w h => atoms_spec (ws := uX5_tick) B.pre w (List.mem_cons_of_mem _ h)⟩, B.returns, B.notSynchronized, hK⟩
  have hl := lv_entry ([.ref (ad 0)]) (n := 3) (Nat.le_of_ble_eq_true rfl)
  rw [lg_entry_eq]
  generalize (lg_sl ([.ref (ad 0)]) ++ List.replicate (3 - (lg_sl ([.ref (ad 0)])).length) Slot.unset).toArray = ls at hl ⊢
  have hl : lv_has ls 3 [(0, .ref (ad 0))] := hl
  exact w5_tick_0 X hI ⟨hP, va_S.rf⟩ (lv_sub hl [0] rfl) hf
set_option maxRecDepth 100000 in
set_option maxHeartbeats 4000000 in
theorem k5_tick {p : Program} {l : Launch} {e : Env} {R : Room} {s : State} {m : MethodId} {args : Array Value} {below : List Frame} {meth : Method} {c : Code} {cc : ByteArray} {nL : Nat} {ret : Option FieldType} {D : va_G} {cI cZ : ClassId} {ad : Nat → Nat} {v0 v1 v2 v3 v4 v5 v6 v7 v8 : Nat → Int32} {H : Heap} {locs : List Loc} {cells slots : Nat} {Q : State → Prop} {pc : Nat} {ls : Array Slot} {rest : List Value} (X : mX D cI cZ p s m args meth c cc nL ret) (hI : mInj ad) (hH : mH D cI cZ ad v0 v1 v2 v3 v4 v5 v6 v7 v8 s H locs) (hls : ls.size = nL) {index : Nat} (hG : GoodIn gw (wsV RX5 index RX5 yX5_tick uX5_tick)) (hR : rm5_tick.frames + 1 ≤ R.frames ∧ 8 + (3 + 11) + rm5_tick.locals ≤ R.locals) {t : (Nat → Int32) × (Nat → Int32) × (Nat → Int32)} (hf : f5_tick_0 v1 v7 v8 = some t) (hrest : (rest.map fun v => v.category).sum ≤ 8) (hdg : decode cc pc = .ok (.invokevirtual index, 3)) (hc : cells ≤ R.cells ∧ slots ≤ R.slots) (kk : ∀ (H1 : Heap) (locs1 : List Loc), mH D cI cZ ad v0 t.1 v2 v3 v4 v5 v6 t.2.1 t.2.2 s H1 locs1 → W p l e R s m args below meth c H1 locs1 cells slots Q (F0 m (pc + 3) ls (rest))) : W p l e R s m args below meth c H locs cells slots Q (F0 m pc ls (.ref (ad 0) :: rest)) := by
  have hA : ∀ q, mA ad H.size q → mA ad s.heap.size q := fun q h => h.elim Or.inl (fun h => Or.inr (Nat.le_trans hH.2.1 h))
  refine va_callv (va_runV (As := []) (rest := rest) X.1 (c5_tick l hI H.size hf) (cwV 0 X.1.2.2.2.2 hG rfl rfl rfl (by decide +kernel) hR) ⟨mBs_bl, va_recv X.2.2.2 hH.1 (ci := 5) (q0 := 0) rfl rfl, fun U hU hW => ⟨rfl, by rw [hU], by rw [hU]; exact hH.1, va_K.moved hW.alike X.2.2.2⟩⟩ rfl rfl hls rfl (lv_room hrest) hdg hc) hH.2 (fun q _ h => hA q h) hA (fun u t9 H1 locs1 ht hvm hw hB hz1 hk1 hS => ?_)
  exact kk H1 locs1 ⟨by rw [← ht]; exact hB.1, hS⟩
/-! OreRailwayModel.runs(I)I -/
def rm5_runs : Room := { frames := 5, cells := 0, slots := 0, locals := 117 }
def f5_runs_11 : Nat → Int32 → Int32 → Int32 → (Nat → Int32) → (Nat → Int32) → (Nat → Int32) → Option (Int32 × (Nat → Int32) × (Nat → Int32) × (Nat → Int32))
  | 0, _, _, _, _, _, _ => none
  | n + 1, x1, x2, x3, v1, v7, v8 => if x1 ≤ x3 then (gd 165 171 (some ((v1 (Int32.toNatClampNeg 165)) - x2, v1, v7, v8))) else (Option.bind (f5_tick_0 v1 v7 v8) (fun t3 => (f5_runs_11 n) x1 x2 (x3 + 1) t3.1 t3.2.1 t3.2.2))
set_option maxRecDepth 100000 in
set_option maxHeartbeats 4000000 in
theorem w5_runs_11 {p : Program} {l : Launch} {e : Env} {s : State} {m : MethodId} {args : Array Value} {below : List Frame} {meth : Method} {c : Code} {D : va_G} {cI cZ : ClassId} {ad : Nat → Nat} {v0 v2 v3 v4 v5 v6 : Nat → Int32} (X : mX D cI cZ p s m args meth c cX5_runs 4 (some .int)) (hI : mInj ad) {t : Int32 × (Nat → Int32) × (Nat → Int32) × (Nat → Int32)} :
    ∀ (n : Nat) (x1 : Int32) (x2 : Int32) (x3 : Int32) (v1 : Nat → Int32) (v7 : Nat → Int32) (v8 : Nat → Int32) (H : Heap) (locs : List Loc), mH D cI cZ ad v0 v1 v2 v3 v4 v5 v6 v7 v8 s H locs → ∀ (ls : Array Slot), lv_has ls 4 [(0, .ref (ad 0)), (1, .int x1), (2, .int x2), (3, .int x3)] → f5_runs_11 n x1 x2 x3 v1 v7 v8 = some t → W p l e rm5_runs s m args below meth c H locs 0 0 (MQ below (va_Qi (fun (r9 : Int32) (_ : Unit) => r9 = t.1) (fun _ t9 => mB D cI cZ ad v0 t.2.1 v2 v3 v4 v5 v6 t.2.2.1 t.2.2.2 t9) (mA ad s.heap.size)) args s 0 0 (mA ad s.heap.size)) (F0 m 11 ls []) := by
  obtain ⟨⟨hx, hb, hml, hown, hts⟩, hr, hlk, hK⟩ := id X
  intro n
  induction n with
  | zero =>
    intro x1 x2 x3 v1 v7 v8 H locs hH ls hl hf
    cases hf
  | succ n ih =>
    intro x1 x2 x3 v1 v7 v8 H locs hH ls hl hf
    replace hf : (if x1 ≤ x3 then (gd 165 171 (some ((v1 (Int32.toNatClampNeg 165)) - x2, v1, v7, v8))) else (Option.bind (f5_tick_0 v1 v7 v8) (fun t3 => (f5_runs_11 n) x1 x2 (x3 + 1) t3.1 t3.2.1 t3.2.2))) = some t := hf
    refine lv_iload_n hx hb dX5_runs_11 rfl (lv_at hl 3 rfl) ?_
    refine lv_iload_n hx hb dX5_runs_12 rfl (lv_at hl 1 rfl) ?_
    refine lv_icmp_ge (tgt := 26) hx hb dX5_runs_13 (by decide) (fun c1 => ?_) (fun c1 => ?_)
    · have hf := it_t c1 hf
      refine lv_aload_n hx hb dX5_runs_26 rfl (lv_at hl 0 rfl) ?_
      refine mr_get X hH.1 (k := 0) (v := .ref (ad 1)) (by decide) gfX5_7 rfl dX5_runs_27 ?_
      refine lv_sipush (v := 165) hx hb dX5_runs_30 (by decide) ?_
      obtain ⟨hi2, hf⟩ := gd_o hf
      refine mr_ld1 X hH.1 hi2 dX5_runs_33 ?_
      refine lv_iload_n hx hb dX5_runs_34 rfl (lv_at hl 2 rfl) ?_
      refine lv_isub hx hb dX5_runs_35 ?_
      obtain rfl := so_i hf
      exact mr_iw X hH rfl dX5_runs_36
    · have hf := it_f c1 hf
      refine lv_aload_n hx hb dX5_runs_16 rfl (lv_at hl 0 rfl) ?_
      obtain ⟨t3, ht3, hf⟩ := bd_o hf
      refine k5_tick X hI hH hl.1 qX5_135 ⟨Nat.le_of_ble_eq_true rfl, Nat.le_of_ble_eq_true rfl⟩ ht3 (Nat.le_of_ble_eq_true rfl) dX5_runs_17 ⟨Nat.zero_le _, Nat.zero_le _⟩ (fun H locs hH => ?_)
      refine lv_iinc (v := x3 + 1) (lv' := [(3, .int (x3 + 1)), (0, .ref (ad 0)), (1, .int x1), (2, .int x2)]) hx hb dX5_runs_20 hl (k := 3) rfl rfl (by decide) rfl (fun ls hl => ?_)
      refine lv_goto (tgt := 11) hx hb dX5_runs_23 (by decide) ?_
      exact ih _ _ _ _ _ _ _ _ hH _ (lv_sub hl [1, 2, 3, 0] rfl) hf
def f5_runs_0 (x1 : Int32) (v1 : Nat → Int32) (v7 : Nat → Int32) (v8 : Nat → Int32) : Option (Int32 × (Nat → Int32) × (Nat → Int32) × (Nat → Int32)) := gd 165 171 (f5_runs_11 fu x1 (v1 (Int32.toNatClampNeg 165)) 0 v1 v7 v8)
set_option maxRecDepth 100000 in
set_option maxHeartbeats 4000000 in
theorem w5_runs_0 {p : Program} {l : Launch} {e : Env} {s : State} {m : MethodId} {args : Array Value} {below : List Frame} {meth : Method} {c : Code} {D : va_G} {cI cZ : ClassId} {ad : Nat → Nat} {v0 v1 v2 v3 v4 v5 v6 v7 v8 : Nat → Int32} (X : mX D cI cZ p s m args meth c cX5_runs 4 (some .int)) (hI : mInj ad) {x1 : Int32} {t : Int32 × (Nat → Int32) × (Nat → Int32) × (Nat → Int32)}  {H : Heap} {locs : List Loc} (hH : mH D cI cZ ad v0 v1 v2 v3 v4 v5 v6 v7 v8 s H locs) {ls : Array Slot} (hl : lv_has ls 4 [(0, .ref (ad 0)), (1, .int x1)]) (hf : f5_runs_0 x1 v1 v7 v8 = some t) : W p l e rm5_runs s m args below meth c H locs 0 0 (MQ below (va_Qi (fun (r9 : Int32) (_ : Unit) => r9 = t.1) (fun _ t9 => mB D cI cZ ad v0 t.2.1 v2 v3 v4 v5 v6 t.2.2.1 t.2.2.2 t9) (mA ad s.heap.size)) args s 0 0 (mA ad s.heap.size)) (F0 m 0 ls []) := by
  obtain ⟨⟨hx, hb, hml, hown, hts⟩, hr, hlk, hK⟩ := id X
  replace hf : (gd 165 171 (f5_runs_11 fu x1 (v1 (Int32.toNatClampNeg 165)) 0 v1 v7 v8)) = some t := hf
  refine lv_aload_n hx hb dX5_runs_0 rfl (lv_at hl 0 rfl) ?_
  refine mr_get X hH.1 (k := 0) (v := .ref (ad 1)) (by decide) gfX5_7 rfl dX5_runs_1 ?_
  refine lv_sipush (v := 165) hx hb dX5_runs_4 (by decide) ?_
  obtain ⟨hi1, hf⟩ := gd_o hf
  refine mr_ld1 X hH.1 hi1 dX5_runs_7 ?_
  refine lv_istore_n (lv' := [(2, .int (v1 (Int32.toNatClampNeg 165))), (0, .ref (ad 0)), (1, .int x1)]) hx hb dX5_runs_8 rfl hl (by decide) rfl (fun ls hl => ?_)
  refine lv_iconst (v := 0) hx hb dX5_runs_9 (by decide) ?_
  refine lv_istore_n (lv' := [(3, .int 0), (2, .int (v1 (Int32.toNatClampNeg 165))), (0, .ref (ad 0)), (1, .int x1)]) hx hb dX5_runs_10 rfl hl (by decide) rfl (fun ls hl => ?_)
  exact w5_runs_11 X hI _ _ _ _ _ _ _ _ _ hH _ (lv_sub hl [2, 3, 1, 0] rfl) hf
set_option maxRecDepth 100000 in
set_option maxHeartbeats 4000000 in
theorem c5_runs (l : Launch) {D : va_G} {cI cZ : ClassId} {ad : Nat → Nat} {v0 v1 v2 v3 v4 v5 v6 v7 v8 : Nat → Int32} (hI : mInj ad) (sz : Nat) (x1 : Int32) {t : Int32 × (Nat → Int32) × (Nat → Int32) × (Nat → Int32)} (hf : f5_runs_0 x1 v1 v7 v8 = some t) : Met l yX5_runs uX5_runs rm5_runs (va_Pc [.ref (ad 0), .int x1] (fun U => U.heap.size = sz ∧ mB D cI cZ ad v0 v1 v2 v3 v4 v5 v6 v7 v8 U)) (va_Qi (fun (r9 : Int32) (_ : Unit) => r9 = t.1) (fun _ t9 => mB D cI cZ ad v0 t.2.1 v2 v3 v4 v5 v6 t.2.2.1 t.2.2.2 t9) (mA ad sz)) 0 0 (mA ad sz) := by
  refine Met.ofW (cc := cX5_runs) (maxL := 4) (ret := (some .int)) (by decide) rfl ?_
  intro p e s m args below meth c s₁ B hml hv
  obtain ⟨rfl, hsz, hP, hK⟩ := hv
  subst hsz
  have X : mX D cI cZ p s m ([.ref (ad 0), .int x1] : List Value).toArray meth c cX5_runs 4 (some .int) := ⟨⟨B.exec, B.bytes, hml, findClass_of_methodNamed B.named, fun w h => atoms_spec (ws := uX5_runs) B.pre w (List.mem_cons_of_mem _ h)⟩, B.returns, B.notSynchronized, hK⟩
  have hl := lv_entry ([.ref (ad 0), .int x1]) (n := 4) (Nat.le_of_ble_eq_true rfl)
  rw [lg_entry_eq]
  generalize (lg_sl ([.ref (ad 0), .int x1]) ++ List.replicate (4 - (lg_sl ([.ref (ad 0), .int x1])).length) Slot.unset).toArray = ls at hl ⊢
  have hl : lv_has ls 4 [(0, .ref (ad 0)), (1, .int x1)] := hl
  exact w5_runs_0 X hI ⟨hP, va_S.rf⟩ (lv_sub hl [0, 1] rfl) hf
set_option maxRecDepth 100000 in
set_option maxHeartbeats 4000000 in
theorem k5_runs {p : Program} {l : Launch} {e : Env} {R : Room} {s : State} {m : MethodId} {args : Array Value} {below : List Frame} {meth : Method} {c : Code} {cc : ByteArray} {nL : Nat} {ret : Option FieldType} {D : va_G} {cI cZ : ClassId} {ad : Nat → Nat} {v0 v1 v2 v3 v4 v5 v6 v7 v8 : Nat → Int32} {H : Heap} {locs : List Loc} {cells slots : Nat} {Q : State → Prop} {pc : Nat} {ls : Array Slot} {rest : List Value} (X : mX D cI cZ p s m args meth c cc nL ret) (hI : mInj ad) (hH : mH D cI cZ ad v0 v1 v2 v3 v4 v5 v6 v7 v8 s H locs) (hls : ls.size = nL) {index : Nat} (hG : GoodIn gw (wsV RX5 index RX5 yX5_runs uX5_runs)) (hR : rm5_runs.frames + 1 ≤ R.frames ∧ 8 + (4 + 11) + rm5_runs.locals ≤ R.locals) {x1 : Int32} {t : Int32 × (Nat → Int32) × (Nat → Int32) × (Nat → Int32)} (hf : f5_runs_0 x1 v1 v7 v8 = some t) (hrest : (rest.map fun v => v.category).sum ≤ 8) (hdg : decode cc pc = .ok (.invokevirtual index, 3)) (hc : cells ≤ R.cells ∧ slots ≤ R.slots) (kk : ∀ (H1 : Heap) (locs1 : List Loc), mH D cI cZ ad v0 t.2.1 v2 v3 v4 v5 v6 t.2.2.1 t.2.2.2 s H1 locs1 → W p l e R s m args below meth c H1 locs1 cells slots Q (F0 m (pc + 3) ls (.int t.1 :: rest))) : W p l e R s m args below meth c H locs cells slots Q (F0 m pc ls (.int x1 :: .ref (ad 0) :: rest)) := by
  have hA : ∀ q, mA ad H.size q → mA ad s.heap.size q := fun q h => h.elim Or.inl (fun h => Or.inr (Nat.le_trans hH.2.1 h))
  refine va_calli (va_runV (As := [.int x1]) (rest := rest) X.1 (c5_runs l hI H.size x1 hf) (cwV 1 X.1.2.2.2.2 hG rfl rfl rfl (by decide +kernel) hR) ⟨mBs_bl, va_recv X.2.2.2 hH.1 (ci := 5) (q0 := 0) rfl rfl, fun U hU hW => ⟨rfl, by rw [hU], by rw [hU]; exact hH.1, va_K.moved hW.alike X.2.2.2⟩⟩ rfl rfl hls rfl (lv_room hrest) hdg hc) hH.2 (fun q _ h => hA q h) hA (fun r9 u t9 H1 locs1 ht hvm hw hB hz1 hk1 hS => ?_)
  subst hw
  exact kk H1 locs1 ⟨by rw [← ht]; exact hB.1, hS⟩
/-! OreRailwayModel.run(I)I -/
def rm5_run : Room := { frames := 6, cells := 0, slots := 0, locals := 140 }
def f5_run_16 (x1 : Int32) (y0 : Int32) (v0 : Nat → Int32) (v1 : Nat → Int32) (v3 : Nat → Int32) (v7 : Nat → Int32) (v8 : Nat → Int32) : Option (Int32 × (Nat → Int32) × (Nat → Int32) × (Nat → Int32) × (Nat → Int32) × (Nat → Int32)) := Option.bind (f5_refused_0 y0 v0) (fun t1 => if t1.1 = 0 then (Option.bind (f5_saves_0 v1 t1.2 v3) (fun t3 => Option.bind (f5_runs_0 x1 v1 v7 v8) (fun t4 => some (t4.1, t3.1, t4.2.1, t3.2, t4.2.2.1, t4.2.2.2)))) else (some (0, t1.2, v1, v3, v7, v8)))
set_option maxRecDepth 100000 in
set_option maxHeartbeats 4000000 in
theorem w5_run_16 {p : Program} {l : Launch} {e : Env} {s : State} {m : MethodId} {args : Array Value} {below : List Frame} {meth : Method} {c : Code} {D : va_G} {cI cZ : ClassId} {ad : Nat → Nat} {v0 v1 v2 v3 v4 v5 v6 v7 v8 : Nat → Int32} (X : mX D cI cZ p s m args meth c cX5_run 2 (some .int)) (hI : mInj ad) {x1 : Int32} {y0 : Int32} {t : Int32 × (Nat → Int32) × (Nat → Int32) × (Nat → Int32) × (Nat → Int32) × (Nat → Int32)}  {H : Heap} {locs : List Loc} (hH : mH D cI cZ ad v0 v1 v2 v3 v4 v5 v6 v7 v8 s H locs) {ls : Array Slot} (hl : lv_has ls 2 [(0, .ref (ad 0)), (1, .int x1)]) (hf : f5_run_16 x1 y0 v0 v1 v3 v7 v8 = some t) : W p l e rm5_run s m args below meth c H locs 0 0 (MQ below (va_Qi (fun (r9 : Int32) (_ : Unit) => r9 = t.1) (fun _ t9 => mB D cI cZ ad t.2.1 t.2.2.1 v2 t.2.2.2.1 v4 v5 v6 t.2.2.2.2.1 t.2.2.2.2.2 t9) (mA ad s.heap.size)) args s 0 0 (mA ad s.heap.size)) (F0 m 16 ls [.int y0, .ref (ad 0)]) := by
  obtain ⟨⟨hx, hb, hml, hown, hts⟩, hr, hlk, hK⟩ := id X
  replace hf : (Option.bind (f5_refused_0 y0 v0) (fun t1 => if t1.1 = 0 then (Option.bind (f5_saves_0 v1 t1.2 v3) (fun t3 => Option.bind (f5_runs_0 x1 v1 v7 v8) (fun t4 => some (t4.1, t3.1, t4.2.1, t3.2, t4.2.2.1, t4.2.2.2)))) else (some (0, t1.2, v1, v3, v7, v8)))) = some t := hf
  obtain ⟨t1, ht1, hf⟩ := bd_o hf
  refine k5_refused X hI hH hl.1 qX5_50 ⟨Nat.le_of_ble_eq_true rfl, Nat.le_of_ble_eq_true rfl⟩ ht1 (Nat.le_of_ble_eq_true rfl) dX5_run_16 ⟨Nat.zero_le _, Nat.zero_le _⟩ (fun H locs hH => ?_)
  refine lv_if_eq (tgt := 24) hx hb dX5_run_19 (by decide) (fun c2 => ?_) (fun c2 => ?_)
  · have hf := it_t c2 hf
    refine lv_aload_n hx hb dX5_run_24 rfl (lv_at hl 0 rfl) ?_
    obtain ⟨t3, ht3, hf⟩ := bd_o hf
    refine k5_saves X hI hH hl.1 qX5_54 ⟨Nat.le_of_ble_eq_true rfl, Nat.le_of_ble_eq_true rfl⟩ ht3 (Nat.le_of_ble_eq_true rfl) dX5_run_25 ⟨Nat.zero_le _, Nat.zero_le _⟩ (fun H locs hH => ?_)
    refine lv_aload_n hx hb dX5_run_28 rfl (lv_at hl 0 rfl) ?_
    refine lv_iload_n hx hb dX5_run_29 rfl (lv_at hl 1 rfl) ?_
    obtain ⟨t4, ht4, hf⟩ := bd_o hf
    refine k5_runs X hI hH hl.1 qX5_138 ⟨Nat.le_of_ble_eq_true rfl, Nat.le_of_ble_eq_true rfl⟩ ht4 (Nat.le_of_ble_eq_true rfl) dX5_run_30 ⟨Nat.zero_le _, Nat.zero_le _⟩ (fun H locs hH => ?_)
    obtain rfl := so_i hf
    exact mr_iw X hH rfl dX5_run_33
  · have hf := it_f c2 hf
    refine lv_iconst (v := 0) hx hb dX5_run_22 (by decide) ?_
    obtain rfl := so_i hf
    exact mr_iw X hH rfl dX5_run_23
def f5_run_0 (x1 : Int32) (v0 : Nat → Int32) (v1 : Nat → Int32) (v3 : Nat → Int32) (v7 : Nat → Int32) (v8 : Nat → Int32) : Option (Int32 × (Nat → Int32) × (Nat → Int32) × (Nat → Int32) × (Nat → Int32) × (Nat → Int32)) := Option.bind (f5_in_0 x1 1 60) (fun t1 => if t1 = 0 then (f5_run_16 x1 1 v0 v1 v3 v7 v8) else (f5_run_16 x1 0 v0 v1 v3 v7 v8))
set_option maxRecDepth 100000 in
set_option maxHeartbeats 4000000 in
theorem w5_run_0 {p : Program} {l : Launch} {e : Env} {s : State} {m : MethodId} {args : Array Value} {below : List Frame} {meth : Method} {c : Code} {D : va_G} {cI cZ : ClassId} {ad : Nat → Nat} {v0 v1 v2 v3 v4 v5 v6 v7 v8 : Nat → Int32} (X : mX D cI cZ p s m args meth c cX5_run 2 (some .int)) (hI : mInj ad) {x1 : Int32} {t : Int32 × (Nat → Int32) × (Nat → Int32) × (Nat → Int32) × (Nat → Int32) × (Nat → Int32)}  {H : Heap} {locs : List Loc} (hH : mH D cI cZ ad v0 v1 v2 v3 v4 v5 v6 v7 v8 s H locs) {ls : Array Slot} (hl : lv_has ls 2 [(0, .ref (ad 0)), (1, .int x1)]) (hf : f5_run_0 x1 v0 v1 v3 v7 v8 = some t) : W p l e rm5_run s m args below meth c H locs 0 0 (MQ below (va_Qi (fun (r9 : Int32) (_ : Unit) => r9 = t.1) (fun _ t9 => mB D cI cZ ad t.2.1 t.2.2.1 v2 t.2.2.2.1 v4 v5 v6 t.2.2.2.2.1 t.2.2.2.2.2 t9) (mA ad s.heap.size)) args s 0 0 (mA ad s.heap.size)) (F0 m 0 ls []) := by
  obtain ⟨⟨hx, hb, hml, hown, hts⟩, hr, hlk, hK⟩ := id X
  replace hf : (Option.bind (f5_in_0 x1 1 60) (fun t1 => if t1 = 0 then (f5_run_16 x1 1 v0 v1 v3 v7 v8) else (f5_run_16 x1 0 v0 v1 v3 v7 v8))) = some t := hf
  refine lv_aload_n hx hb dX5_run_0 rfl (lv_at hl 0 rfl) ?_
  refine lv_iload_n hx hb dX5_run_1 rfl (lv_at hl 1 rfl) ?_
  refine lv_iconst (v := 1) hx hb dX5_run_2 (by decide) ?_
  refine lv_bipush (v := 60) hx hb dX5_run_3 (by decide) ?_
  obtain ⟨t1, ht1, hf⟩ := bd_o hf
  refine k5_in X.1 hl.1 qX5_39 ⟨Nat.le_of_ble_eq_true rfl, Nat.le_of_ble_eq_true rfl⟩ ht1 (Nat.le_of_ble_eq_true rfl) dX5_run_5 ⟨Nat.zero_le _, Nat.zero_le _⟩ ?_
  refine lv_if_eq (tgt := 15) hx hb dX5_run_8 (by decide) (fun c2 => ?_) (fun c2 => ?_)
  · have hf := it_t c2 hf
    refine lv_iconst (v := 1) hx hb dX5_run_15 (by decide) ?_
    exact w5_run_16 X hI hH (lv_sub hl [0, 1] rfl) hf
  · have hf := it_f c2 hf
    refine lv_iconst (v := 0) hx hb dX5_run_11 (by decide) ?_
    refine lv_goto (tgt := 16) hx hb dX5_run_12 (by decide) ?_
    exact w5_run_16 X hI hH (lv_sub hl [0, 1] rfl) hf
set_option maxRecDepth 100000 in
set_option maxHeartbeats 4000000 in
theorem c5_run (l : Launch) {D : va_G} {cI cZ : ClassId} {ad : Nat → Nat} {v0 v1 v2 v3 v4 v5 v6 v7 v8 : Nat → Int32} (hI : mInj ad) (sz : Nat) (x1 : Int32) {t : Int32 × (Nat → Int32) × (Nat → Int32) × (Nat → Int32) × (Nat → Int32) × (Nat → Int32)} (hf : f5_run_0 x1 v0 v1 v3 v7 v8 = some t) : Met l yX5_run uX5_run rm5_run (va_Pc [.ref (ad 0), .int x1] (fun U => U.heap.size = sz ∧ mB D cI cZ ad v0 v1 v2 v3 v4 v5 v6 v7 v8 U)) (va_Qi (fun (r9 : Int32) (_ : Unit) => r9 = t.1) (fun _ t9 => mB D cI cZ ad t.2.1 t.2.2.1 v2 t.2.2.2.1 v4 v5 v6 t.2.2.2.2.1 t.2.2.2.2.2 t9) (mA ad sz)) 0 0 (mA ad sz) := by
  refine Met.ofW (cc := cX5_run) (maxL := 2) (ret := (some .int)) (by decide) rfl ?_
  intro p e s m args below meth c s₁ B hml hv
  obtain ⟨rfl, hsz, hP, hK⟩ := hv
  subst hsz
  have X : mX D cI cZ p s m ([.ref (ad 0), .int x1] : List Value).toArray meth c cX5_run 2 (some .int) := ⟨⟨B.exec, B.bytes, hml, findClass_of_methodNamed B.named, fun w h => atoms_spec (ws := uX5_run) B.pre w (List.mem_cons_of_mem _ h)⟩, B.returns, B.notSynchronized, hK⟩
  have hl := lv_entry ([.ref (ad 0), .int x1]) (n := 2) (Nat.le_of_ble_eq_true rfl)
  rw [lg_entry_eq]
  generalize (lg_sl ([.ref (ad 0), .int x1]) ++ List.replicate (2 - (lg_sl ([.ref (ad 0), .int x1])).length) Slot.unset).toArray = ls at hl ⊢
  have hl : lv_has ls 2 [(0, .ref (ad 0)), (1, .int x1)] := hl
  exact w5_run_0 X hI ⟨hP, va_S.rf⟩ (lv_sub hl [0, 1] rfl) hf
set_option maxRecDepth 100000 in
set_option maxHeartbeats 4000000 in
theorem k5_run {p : Program} {l : Launch} {e : Env} {R : Room} {s : State} {m : MethodId} {args : Array Value} {below : List Frame} {meth : Method} {c : Code} {cc : ByteArray} {nL : Nat} {ret : Option FieldType} {D : va_G} {cI cZ : ClassId} {ad : Nat → Nat} {v0 v1 v2 v3 v4 v5 v6 v7 v8 : Nat → Int32} {H : Heap} {locs : List Loc} {cells slots : Nat} {Q : State → Prop} {pc : Nat} {ls : Array Slot} {rest : List Value} (X : mX D cI cZ p s m args meth c cc nL ret) (hI : mInj ad) (hH : mH D cI cZ ad v0 v1 v2 v3 v4 v5 v6 v7 v8 s H locs) (hls : ls.size = nL) {index : Nat} (hG : GoodIn gw (wsV RX5 index RX5 yX5_run uX5_run)) (hR : rm5_run.frames + 1 ≤ R.frames ∧ 8 + (2 + 11) + rm5_run.locals ≤ R.locals) {x1 : Int32} {t : Int32 × (Nat → Int32) × (Nat → Int32) × (Nat → Int32) × (Nat → Int32) × (Nat → Int32)} (hf : f5_run_0 x1 v0 v1 v3 v7 v8 = some t) (hrest : (rest.map fun v => v.category).sum ≤ 8) (hdg : decode cc pc = .ok (.invokevirtual index, 3)) (hc : cells ≤ R.cells ∧ slots ≤ R.slots) (kk : ∀ (H1 : Heap) (locs1 : List Loc), mH D cI cZ ad t.2.1 t.2.2.1 v2 t.2.2.2.1 v4 v5 v6 t.2.2.2.2.1 t.2.2.2.2.2 s H1 locs1 → W p l e R s m args below meth c H1 locs1 cells slots Q (F0 m (pc + 3) ls (.int t.1 :: rest))) : W p l e R s m args below meth c H locs cells slots Q (F0 m pc ls (.int x1 :: .ref (ad 0) :: rest)) := by
  have hA : ∀ q, mA ad H.size q → mA ad s.heap.size q := fun q h => h.elim Or.inl (fun h => Or.inr (Nat.le_trans hH.2.1 h))
  refine va_calli (va_runV (As := [.int x1]) (rest := rest) X.1 (c5_run l hI H.size x1 hf) (cwV 1 X.1.2.2.2.2 hG rfl rfl rfl (by decide +kernel) hR) ⟨mBs_bl, va_recv X.2.2.2 hH.1 (ci := 5) (q0 := 0) rfl rfl, fun U hU hW => ⟨rfl, by rw [hU], by rw [hU]; exact hH.1, va_K.moved hW.alike X.2.2.2⟩⟩ rfl rfl hls rfl (lv_room hrest) hdg hc) hH.2 (fun q _ h => hA q h) hA (fun r9 u t9 H1 locs1 ht hvm hw hB hz1 hk1 hS => ?_)
  subst hw
  exact kk H1 locs1 ⟨by rw [← ht]; exact hB.1, hS⟩
/-! OreRailwayModel.append(I)I -/
def rm5_append : Room := { frames := 1, cells := 0, slots := 0, locals := 22 }
def f5_append_30 (x1 : Int32) (y0 : Int32) (v0 : Nat → Int32) (v6 : Nat → Int32) : Option (Int32 × (Nat → Int32) × (Nat → Int32)) := Option.bind (f5_refused_0 y0 v0) (fun t1 => if t1.1 = 0 then (gd (t1.2 7) 60 (some ((upd t1.2 7 ((t1.2 7) + 1)) 7, upd t1.2 7 ((t1.2 7) + 1), upd v6 (Int32.toNatClampNeg (t1.2 7)) x1))) else (some (0, t1.2, v6)))
set_option maxRecDepth 100000 in
set_option maxHeartbeats 4000000 in
theorem w5_append_30 {p : Program} {l : Launch} {e : Env} {s : State} {m : MethodId} {args : Array Value} {below : List Frame} {meth : Method} {c : Code} {D : va_G} {cI cZ : ClassId} {ad : Nat → Nat} {v0 v1 v2 v3 v4 v5 v6 v7 v8 : Nat → Int32} (X : mX D cI cZ p s m args meth c cX5_append 2 (some .int)) (hI : mInj ad) {x1 : Int32} {y0 : Int32} {t : Int32 × (Nat → Int32) × (Nat → Int32)}  {H : Heap} {locs : List Loc} (hH : mH D cI cZ ad v0 v1 v2 v3 v4 v5 v6 v7 v8 s H locs) {ls : Array Slot} (hl : lv_has ls 2 [(0, .ref (ad 0)), (1, .int x1)]) (hf : f5_append_30 x1 y0 v0 v6 = some t) : W p l e rm5_append s m args below meth c H locs 0 0 (MQ below (va_Qi (fun (r9 : Int32) (_ : Unit) => r9 = t.1) (fun _ t9 => mB D cI cZ ad t.2.1 v1 v2 v3 v4 v5 t.2.2 v7 v8 t9) (mA ad s.heap.size)) args s 0 0 (mA ad s.heap.size)) (F0 m 30 ls [.int y0, .ref (ad 0)]) := by
  obtain ⟨⟨hx, hb, hml, hown, hts⟩, hr, hlk, hK⟩ := id X
  replace hf : (Option.bind (f5_refused_0 y0 v0) (fun t1 => if t1.1 = 0 then (gd (t1.2 7) 60 (some ((upd t1.2 7 ((t1.2 7) + 1)) 7, upd t1.2 7 ((t1.2 7) + 1), upd v6 (Int32.toNatClampNeg (t1.2 7)) x1))) else (some (0, t1.2, v6)))) = some t := hf
  obtain ⟨t1, ht1, hf⟩ := bd_o hf
  refine k5_refused X hI hH hl.1 qX5_50 ⟨Nat.le_of_ble_eq_true rfl, Nat.le_of_ble_eq_true rfl⟩ ht1 (Nat.le_of_ble_eq_true rfl) dX5_append_30 ⟨Nat.zero_le _, Nat.zero_le _⟩ (fun H locs hH => ?_)
  refine lv_if_eq (tgt := 38) hx hb dX5_append_33 (by decide) (fun c2 => ?_) (fun c2 => ?_)
  · have hf := it_t c2 hf
    refine lv_aload_n hx hb dX5_append_38 rfl (lv_at hl 0 rfl) ?_
    refine mr_get X hH.1 (k := 6) (v := .ref (ad 6)) (by decide) gfX5_26 rfl dX5_append_39 ?_
    refine lv_aload_n hx hb dX5_append_42 rfl (lv_at hl 0 rfl) ?_
    refine mr_get X hH.1 (k := 7) (v := .int (t1.2 7)) (by decide) gfX5_141 rfl dX5_append_43 ?_
    refine lv_iload_n hx hb dX5_append_46 rfl (lv_at hl 1 rfl) ?_
    obtain ⟨hi3, hf⟩ := gd_o hf
    refine mr_st6 X hI hH hi3 dX5_append_47 (fun H locs hH => ?_)
    refine lv_aload_n hx hb dX5_append_48 rfl (lv_at hl 0 rfl) ?_
    refine lv_dup hx hb dX5_append_49 rfl ?_
    refine mr_get X hH.1 (k := 7) (v := .int (t1.2 7)) (by decide) gfX5_141 rfl dX5_append_50 ?_
    refine lv_iconst (v := 1) hx hb dX5_append_53 (by decide) ?_
    refine lv_iadd hx hb dX5_append_54 ?_
    refine mr_put X hI hH 7 (by decide) gfX5_141 rfl rfl dX5_append_55 (fun H locs hH => ?_)
    refine lv_aload_n hx hb dX5_append_58 rfl (lv_at hl 0 rfl) ?_
    refine mr_get X hH.1 (k := 7) (v := .int ((upd t1.2 7 ((t1.2 7) + 1)) 7)) (by decide) gfX5_141 rfl dX5_append_59 ?_
    obtain rfl := so_i hf
    exact mr_iw X hH rfl dX5_append_62
  · have hf := it_f c2 hf
    refine lv_iconst (v := 0) hx hb dX5_append_36 (by decide) ?_
    obtain rfl := so_i hf
    exact mr_iw X hH rfl dX5_append_37
def f5_append_0 (x1 : Int32) (v0 : Nat → Int32) (v6 : Nat → Int32) : Option (Int32 × (Nat → Int32) × (Nat → Int32)) := Option.bind (f5_in_0 x1 33 126) (fun t1 => if t1 = 0 then (f5_append_30 x1 1 v0 v6) else (if (v0 7) = 60 then (f5_append_30 x1 2 v0 v6) else (f5_append_30 x1 0 v0 v6)))
set_option maxRecDepth 100000 in
set_option maxHeartbeats 4000000 in
theorem w5_append_0 {p : Program} {l : Launch} {e : Env} {s : State} {m : MethodId} {args : Array Value} {below : List Frame} {meth : Method} {c : Code} {D : va_G} {cI cZ : ClassId} {ad : Nat → Nat} {v0 v1 v2 v3 v4 v5 v6 v7 v8 : Nat → Int32} (X : mX D cI cZ p s m args meth c cX5_append 2 (some .int)) (hI : mInj ad) {x1 : Int32} {t : Int32 × (Nat → Int32) × (Nat → Int32)}  {H : Heap} {locs : List Loc} (hH : mH D cI cZ ad v0 v1 v2 v3 v4 v5 v6 v7 v8 s H locs) {ls : Array Slot} (hl : lv_has ls 2 [(0, .ref (ad 0)), (1, .int x1)]) (hf : f5_append_0 x1 v0 v6 = some t) : W p l e rm5_append s m args below meth c H locs 0 0 (MQ below (va_Qi (fun (r9 : Int32) (_ : Unit) => r9 = t.1) (fun _ t9 => mB D cI cZ ad t.2.1 v1 v2 v3 v4 v5 t.2.2 v7 v8 t9) (mA ad s.heap.size)) args s 0 0 (mA ad s.heap.size)) (F0 m 0 ls []) := by
  obtain ⟨⟨hx, hb, hml, hown, hts⟩, hr, hlk, hK⟩ := id X
  replace hf : (Option.bind (f5_in_0 x1 33 126) (fun t1 => if t1 = 0 then (f5_append_30 x1 1 v0 v6) else (if (v0 7) = 60 then (f5_append_30 x1 2 v0 v6) else (f5_append_30 x1 0 v0 v6)))) = some t := hf
  refine lv_aload_n hx hb dX5_append_0 rfl (lv_at hl 0 rfl) ?_
  refine lv_iload_n hx hb dX5_append_1 rfl (lv_at hl 1 rfl) ?_
  refine lv_bipush (v := 33) hx hb dX5_append_2 (by decide) ?_
  refine lv_bipush (v := 126) hx hb dX5_append_4 (by decide) ?_
  obtain ⟨t1, ht1, hf⟩ := bd_o hf
  refine k5_in X.1 hl.1 qX5_39 ⟨Nat.le_of_ble_eq_true rfl, Nat.le_of_ble_eq_true rfl⟩ ht1 (Nat.le_of_ble_eq_true rfl) dX5_append_6 ⟨Nat.zero_le _, Nat.zero_le _⟩ ?_
  refine lv_if_ne (tgt := 16) hx hb dX5_append_9 (by decide) (fun c2 => ?_) (fun c2 => ?_)
  · have hf := it_f c2 hf
    refine lv_aload_n hx hb dX5_append_16 rfl (lv_at hl 0 rfl) ?_
    refine mr_get X hH.1 (k := 7) (v := .int (v0 7)) (by decide) gfX5_141 rfl dX5_append_17 ?_
    refine lv_bipush (v := 60) hx hb dX5_append_20 (by decide) ?_
    refine lv_icmp_ne (tgt := 29) hx hb dX5_append_22 (by decide) (fun c3 => ?_) (fun c3 => ?_)
    · have hf := it_f c3 hf
      refine lv_iconst (v := 0) hx hb dX5_append_29 (by decide) ?_
      exact w5_append_30 X hI hH (lv_sub hl [0, 1] rfl) hf
    · have hf := it_t c3 hf
      refine lv_iconst (v := 2) hx hb dX5_append_25 (by decide) ?_
      refine lv_goto (tgt := 30) hx hb dX5_append_26 (by decide) ?_
      exact w5_append_30 X hI hH (lv_sub hl [0, 1] rfl) hf
  · have hf := it_t c2 hf
    refine lv_iconst (v := 1) hx hb dX5_append_12 (by decide) ?_
    refine lv_goto (tgt := 30) hx hb dX5_append_13 (by decide) ?_
    exact w5_append_30 X hI hH (lv_sub hl [0, 1] rfl) hf
set_option maxRecDepth 100000 in
set_option maxHeartbeats 4000000 in
theorem c5_append (l : Launch) {D : va_G} {cI cZ : ClassId} {ad : Nat → Nat} {v0 v1 v2 v3 v4 v5 v6 v7 v8 : Nat → Int32} (hI : mInj ad) (sz : Nat) (x1 : Int32) {t : Int32 × (Nat → Int32) × (Nat → Int32)} (hf : f5_append_0 x1 v0 v6 = some t) : Met l yX5_append uX5_append rm5_append (va_Pc [.ref (ad 0), .int x1] (fun U => U.heap.size = sz ∧ mB D cI cZ ad v0 v1 v2 v3 v4 v5 v6 v7 v8 U)) (va_Qi (fun (r9 : Int32) (_ : Unit) => r9 = t.1) (fun _ t9 => mB D cI cZ ad t.2.1 v1 v2 v3 v4 v5 t.2.2 v7 v8 t9) (mA ad sz)) 0 0 (mA ad sz) := by
  refine Met.ofW (cc := cX5_append) (maxL := 2) (ret := (some .int)) (by decide) rfl ?_
  intro p e s m args below meth c s₁ B hml hv
  obtain ⟨rfl, hsz, hP, hK⟩ := hv
  subst hsz
  have X : mX D cI cZ p s m ([.ref (ad 0), .int x1] : List Value).toArray meth c cX5_append 2 (some .int) := ⟨⟨B.exec, B.bytes, hml, findClass_of_methodNamed B.named, fun w h => atoms_spec (ws := uX5_append) B.pre w (List.mem_cons_of_mem _ h)⟩, B.returns, B.notSynchronized, hK⟩
  have hl := lv_entry ([.ref (ad 0), .int x1]) (n := 2) (Nat.le_of_ble_eq_true rfl)
  rw [lg_entry_eq]
  generalize (lg_sl ([.ref (ad 0), .int x1]) ++ List.replicate (2 - (lg_sl ([.ref (ad 0), .int x1])).length) Slot.unset).toArray = ls at hl ⊢
  have hl : lv_has ls 2 [(0, .ref (ad 0)), (1, .int x1)] := hl
  exact w5_append_0 X hI ⟨hP, va_S.rf⟩ (lv_sub hl [0, 1] rfl) hf
set_option maxRecDepth 100000 in
set_option maxHeartbeats 4000000 in
theorem k5_append {p : Program} {l : Launch} {e : Env} {R : Room} {s : State} {m : MethodId} {args : Array Value} {below : List Frame} {meth : Method} {c : Code} {cc : ByteArray} {nL : Nat} {ret : Option FieldType} {D : va_G} {cI cZ : ClassId} {ad : Nat → Nat} {v0 v1 v2 v3 v4 v5 v6 v7 v8 : Nat → Int32} {H : Heap} {locs : List Loc} {cells slots : Nat} {Q : State → Prop} {pc : Nat} {ls : Array Slot} {rest : List Value} (X : mX D cI cZ p s m args meth c cc nL ret) (hI : mInj ad) (hH : mH D cI cZ ad v0 v1 v2 v3 v4 v5 v6 v7 v8 s H locs) (hls : ls.size = nL) {index : Nat} (hG : GoodIn gw (wsV RX5 index RX5 yX5_append uX5_append)) (hR : rm5_append.frames + 1 ≤ R.frames ∧ 8 + (2 + 11) + rm5_append.locals ≤ R.locals) {x1 : Int32} {t : Int32 × (Nat → Int32) × (Nat → Int32)} (hf : f5_append_0 x1 v0 v6 = some t) (hrest : (rest.map fun v => v.category).sum ≤ 8) (hdg : decode cc pc = .ok (.invokevirtual index, 3)) (hc : cells ≤ R.cells ∧ slots ≤ R.slots) (kk : ∀ (H1 : Heap) (locs1 : List Loc), mH D cI cZ ad t.2.1 v1 v2 v3 v4 v5 t.2.2 v7 v8 s H1 locs1 → W p l e R s m args below meth c H1 locs1 cells slots Q (F0 m (pc + 3) ls (.int t.1 :: rest))) : W p l e R s m args below meth c H locs cells slots Q (F0 m pc ls (.int x1 :: .ref (ad 0) :: rest)) := by
  have hA : ∀ q, mA ad H.size q → mA ad s.heap.size q := fun q h => h.elim Or.inl (fun h => Or.inr (Nat.le_trans hH.2.1 h))
  refine va_calli (va_runV (As := [.int x1]) (rest := rest) X.1 (c5_append l hI H.size x1 hf) (cwV 1 X.1.2.2.2.2 hG rfl rfl rfl (by decide +kernel) hR) ⟨mBs_bl, va_recv X.2.2.2 hH.1 (ci := 5) (q0 := 0) rfl rfl, fun U hU hW => ⟨rfl, by rw [hU], by rw [hU]; exact hH.1, va_K.moved hW.alike X.2.2.2⟩⟩ rfl rfl hls rfl (lv_room hrest) hdg hc) hH.2 (fun q _ h => hA q h) hA (fun r9 u t9 H1 locs1 ht hvm hw hB hz1 hk1 hS => ?_)
  subst hw
  exact kk H1 locs1 ⟨by rw [← ht]; exact hB.1, hS⟩
/-! OreRailwayModel.clearBuffer()I -/
def rm5_clearBuffer : Room := { frames := 0, cells := 0, slots := 0, locals := 0 }
def f5_clearBuffer_0 (v0 : Nat → Int32) : Option (Int32 × (Nat → Int32)) := some ((upd v0 8 0) 7, upd (upd v0 8 0) 7 0)
set_option maxRecDepth 100000 in
set_option maxHeartbeats 4000000 in
theorem w5_clearBuffer_0 {p : Program} {l : Launch} {e : Env} {s : State} {m : MethodId} {args : Array Value} {below : List Frame} {meth : Method} {c : Code} {D : va_G} {cI cZ : ClassId} {ad : Nat → Nat} {v0 v1 v2 v3 v4 v5 v6 v7 v8 : Nat → Int32} (X : mX D cI cZ p s m args meth c cX5_clearBuffer 2 (some .int)) (hI : mInj ad) {t : Int32 × (Nat → Int32)}  {H : Heap} {locs : List Loc} (hH : mH D cI cZ ad v0 v1 v2 v3 v4 v5 v6 v7 v8 s H locs) {ls : Array Slot} (hl : lv_has ls 2 [(0, .ref (ad 0))]) (hf : f5_clearBuffer_0 v0 = some t) : W p l e rm5_clearBuffer s m args below meth c H locs 0 0 (MQ below (va_Qi (fun (r9 : Int32) (_ : Unit) => r9 = t.1) (fun _ t9 => mB D cI cZ ad t.2 v1 v2 v3 v4 v5 v6 v7 v8 t9) (mA ad s.heap.size)) args s 0 0 (mA ad s.heap.size)) (F0 m 0 ls []) := by
  obtain ⟨⟨hx, hb, hml, hown, hts⟩, hr, hlk, hK⟩ := id X
  replace hf : (some ((upd v0 8 0) 7, upd (upd v0 8 0) 7 0)) = some t := hf
  refine lv_aload_n hx hb dX5_clearBuffer_0 rfl (lv_at hl 0 rfl) ?_
  refine lv_iconst (v := 0) hx hb dX5_clearBuffer_1 (by decide) ?_
  refine mr_put X hI hH 8 (by decide) gfX5_35 rfl rfl dX5_clearBuffer_2 (fun H locs hH => ?_)
  refine lv_aload_n hx hb dX5_clearBuffer_5 rfl (lv_at hl 0 rfl) ?_
  refine mr_get X hH.1 (k := 7) (v := .int ((upd v0 8 0) 7)) (by decide) gfX5_141 rfl dX5_clearBuffer_6 ?_
  refine lv_istore_n (lv' := [(1, .int ((upd v0 8 0) 7)), (0, .ref (ad 0))]) hx hb dX5_clearBuffer_9 rfl hl (by decide) rfl (fun ls hl => ?_)
  refine lv_aload_n hx hb dX5_clearBuffer_10 rfl (lv_at hl 1 rfl) ?_
  refine lv_iconst (v := 0) hx hb dX5_clearBuffer_11 (by decide) ?_
  refine mr_put X hI hH 7 (by decide) gfX5_141 rfl rfl dX5_clearBuffer_12 (fun H locs hH => ?_)
  refine lv_iload_n hx hb dX5_clearBuffer_15 rfl (lv_at hl 0 rfl) ?_
  obtain rfl := so_i hf
  exact mr_iw X hH rfl dX5_clearBuffer_16
set_option maxRecDepth 100000 in
set_option maxHeartbeats 4000000 in
theorem c5_clearBuffer (l : Launch) {D : va_G} {cI cZ : ClassId} {ad : Nat → Nat} {v0 v1 v2 v3 v4 v5 v6 v7 v8 : Nat → Int32} (hI : mInj ad) (sz : Nat) {t : Int32 × (Nat → Int32)} (hf : f5_clearBuffer_0 v0 = some t) : Met l yX5_clearBuffer uX5_clearBuffer rm5_clearBuffer (va_Pc [.ref (ad 0)] (fun U => U.heap.size = sz ∧ mB D cI cZ ad v0 v1 v2 v3 v4 v5 v6 v7 v8 U)) (va_Qi (fun (r9 : Int32) (_ : Unit) => r9 = t.1) (fun _ t9 => mB D cI cZ ad t.2 v1 v2 v3 v4 v5 v6 v7 v8 t9) (mA ad sz)) 0 0 (mA ad sz) := by
  refine Met.ofW (cc := cX5_clearBuffer) (maxL := 2) (ret := (some .int)) (by decide) rfl ?_
  intro p e s m args below meth c s₁ B hml hv
  obtain ⟨rfl, hsz, hP, hK⟩ := hv
  subst hsz
  have X : mX D cI cZ p s m ([.ref (ad 0)] : List Value).toArray meth c cX5_clearBuffer 2 (some .int) := ⟨⟨B.exec, B.bytes, hml, findClass_of_methodNamed B.named, fun w h => atoms_spec (ws := uX5_clearBuffer) B.pre w (List.mem_cons_of_mem _ h)⟩, B.returns, B.notSynchronized, hK⟩
  have hl := lv_entry ([.ref (ad 0)]) (n := 2) (Nat.le_of_ble_eq_true rfl)
  rw [lg_entry_eq]
  generalize (lg_sl ([.ref (ad 0)]) ++ List.replicate (2 - (lg_sl ([.ref (ad 0)])).length) Slot.unset).toArray = ls at hl ⊢
  have hl : lv_has ls 2 [(0, .ref (ad 0))] := hl
  exact w5_clearBuffer_0 X hI ⟨hP, va_S.rf⟩ (lv_sub hl [0] rfl) hf
set_option maxRecDepth 100000 in
set_option maxHeartbeats 4000000 in
theorem k5_clearBuffer {p : Program} {l : Launch} {e : Env} {R : Room} {s : State} {m : MethodId} {args : Array Value} {below : List Frame} {meth : Method} {c : Code} {cc : ByteArray} {nL : Nat} {ret : Option FieldType} {D : va_G} {cI cZ : ClassId} {ad : Nat → Nat} {v0 v1 v2 v3 v4 v5 v6 v7 v8 : Nat → Int32} {H : Heap} {locs : List Loc} {cells slots : Nat} {Q : State → Prop} {pc : Nat} {ls : Array Slot} {rest : List Value} (X : mX D cI cZ p s m args meth c cc nL ret) (hI : mInj ad) (hH : mH D cI cZ ad v0 v1 v2 v3 v4 v5 v6 v7 v8 s H locs) (hls : ls.size = nL) {index : Nat} (hG : GoodIn gw (wsV RX5 index RX5 yX5_clearBuffer uX5_clearBuffer)) (hR : rm5_clearBuffer.frames + 1 ≤ R.frames ∧ 8 + (2 + 11) + rm5_clearBuffer.locals ≤ R.locals) {t : Int32 × (Nat → Int32)} (hf : f5_clearBuffer_0 v0 = some t) (hrest : (rest.map fun v => v.category).sum ≤ 8) (hdg : decode cc pc = .ok (.invokevirtual index, 3)) (hc : cells ≤ R.cells ∧ slots ≤ R.slots) (kk : ∀ (H1 : Heap) (locs1 : List Loc), mH D cI cZ ad t.2 v1 v2 v3 v4 v5 v6 v7 v8 s H1 locs1 → W p l e R s m args below meth c H1 locs1 cells slots Q (F0 m (pc + 3) ls (.int t.1 :: rest))) : W p l e R s m args below meth c H locs cells slots Q (F0 m pc ls (.ref (ad 0) :: rest)) := by
  have hA : ∀ q, mA ad H.size q → mA ad s.heap.size q := fun q h => h.elim Or.inl (fun h => Or.inr (Nat.le_trans hH.2.1 h))
  refine va_calli (va_runV (As := []) (rest := rest) X.1 (c5_clearBuffer l hI H.size hf) (cwV 0 X.1.2.2.2.2 hG rfl rfl rfl (by decide +kernel) hR) ⟨mBs_bl, va_recv X.2.2.2 hH.1 (ci := 5) (q0 := 0) rfl rfl, fun U hU hW => ⟨rfl, by rw [hU], by rw [hU]; exact hH.1, va_K.moved hW.alike X.2.2.2⟩⟩ rfl rfl hls rfl (lv_room hrest) hdg hc) hH.2 (fun q _ h => hA q h) hA (fun r9 u t9 H1 locs1 ht hvm hw hB hz1 hk1 hS => ?_)
  subst hw
  exact kk H1 locs1 ⟨by rw [← ht]; exact hB.1, hS⟩
/-! OreRailwayModel.next()I -/
def rm5_next : Room := { frames := 0, cells := 0, slots := 0, locals := 0 }
def f5_next_24 (v0 : Nat → Int32) (v6 : Nat → Int32) (y0 : Int32) : Option (Int32) := some y0
set_option maxRecDepth 100000 in
set_option maxHeartbeats 4000000 in
theorem w5_next_24 {p : Program} {l : Launch} {e : Env} {s : State} {m : MethodId} {args : Array Value} {below : List Frame} {meth : Method} {c : Code} {D : va_G} {cI cZ : ClassId} {ad : Nat → Nat} {v0 v1 v2 v3 v4 v5 v6 v7 v8 : Nat → Int32} (X : mX D cI cZ p s m args meth c cX5_next 1 (some .int)) (hP : va_P D vwCl (mwW cI cZ ad v0 v1 v2 v3 v4 v5 v6 v7 v8) s.heap) {y0 : Int32} {t : Int32}  {ls : Array Slot} (hl : lv_has ls 1 []) (hf : f5_next_24 v0 v6 y0 = some t) : W p l e rm5_next s m args below meth c s.heap [] 0 0 (MQ below (QcRead t) args s 0 0 (fun _ => False)) (F0 m 24 ls [.int y0]) := by
  obtain ⟨⟨hx, hb, hml, hown, hts⟩, hr, hlk, hK⟩ := id X
  replace hf : (some y0) = some t := hf
  obtain rfl := so_i hf
  exact rd_i hx hb hr hlk dX5_next_24
def f5_next_0 (v0 : Nat → Int32) (v6 : Nat → Int32) : Option (Int32) := if (v0 7) ≤ (v0 11) then (f5_next_24 v0 v6 0) else (gd (v0 11) 60 (f5_next_24 v0 v6 (v6 (Int32.toNatClampNeg (v0 11)))))
set_option maxRecDepth 100000 in
set_option maxHeartbeats 4000000 in
theorem w5_next_0 {p : Program} {l : Launch} {e : Env} {s : State} {m : MethodId} {args : Array Value} {below : List Frame} {meth : Method} {c : Code} {D : va_G} {cI cZ : ClassId} {ad : Nat → Nat} {v0 v1 v2 v3 v4 v5 v6 v7 v8 : Nat → Int32} (X : mX D cI cZ p s m args meth c cX5_next 1 (some .int)) (hP : va_P D vwCl (mwW cI cZ ad v0 v1 v2 v3 v4 v5 v6 v7 v8) s.heap) {t : Int32}  {ls : Array Slot} (hl : lv_has ls 1 [(0, .ref (ad 0))]) (hf : f5_next_0 v0 v6  = some t) : W p l e rm5_next s m args below meth c s.heap [] 0 0 (MQ below (QcRead t) args s 0 0 (fun _ => False)) (F0 m 0 ls []) := by
  obtain ⟨⟨hx, hb, hml, hown, hts⟩, hr, hlk, hK⟩ := id X
  replace hf : (if (v0 7) ≤ (v0 11) then (f5_next_24 v0 v6 0) else (gd (v0 11) 60 (f5_next_24 v0 v6 (v6 (Int32.toNatClampNeg (v0 11)))))) = some t := hf
  refine lv_aload_n hx hb dX5_next_0 rfl (lv_at hl 0 rfl) ?_
  refine mr_get X hP (k := 11) (v := .int (v0 11)) (by decide) gfX5_144 rfl dX5_next_1 ?_
  refine lv_aload_n hx hb dX5_next_4 rfl (lv_at hl 0 rfl) ?_
  refine mr_get X hP (k := 7) (v := .int (v0 7)) (by decide) gfX5_141 rfl dX5_next_5 ?_
  refine lv_icmp_ge (tgt := 23) hx hb dX5_next_8 (by decide) (fun c1 => ?_) (fun c1 => ?_)
  · have hf := it_t c1 hf
    refine lv_iconst (v := 0) hx hb dX5_next_23 (by decide) ?_
    exact w5_next_24 X hP  (lv_sub hl [] rfl) hf
  · have hf := it_f c1 hf
    refine lv_aload_n hx hb dX5_next_11 rfl (lv_at hl 0 rfl) ?_
    refine mr_get X hP (k := 6) (v := .ref (ad 6)) (by decide) gfX5_26 rfl dX5_next_12 ?_
    refine lv_aload_n hx hb dX5_next_15 rfl (lv_at hl 0 rfl) ?_
    refine mr_get X hP (k := 11) (v := .int (v0 11)) (by decide) gfX5_144 rfl dX5_next_16 ?_
    obtain ⟨hi2, hf⟩ := gd_o hf
    refine mr_ld6 X hP hi2 dX5_next_19 ?_
    refine lv_goto (tgt := 24) hx hb dX5_next_20 (by decide) ?_
    exact w5_next_24 X hP  (lv_sub hl [] rfl) hf
set_option maxRecDepth 100000 in
set_option maxHeartbeats 4000000 in
theorem c5_next (l : Launch) {D : va_G} {cI cZ : ClassId} {ad : Nat → Nat} {v0 v1 v2 v3 v4 v5 v6 v7 v8 : Nat → Int32} {t : Int32} (hf : f5_next_0 v0 v6 = some t) : Met l yX5_next uX5_next rm5_next (va_Pc [.ref (ad 0)] (mB D cI cZ ad v0 v1 v2 v3 v4 v5 v6 v7 v8)) (QcRead t) 0 0 (fun _ => False) := by
  refine Met.ofW (cc := cX5_next) (maxL := 1) (ret := (some .int)) (by decide) rfl ?_
  intro p e s m args below meth c s₁ B hml hv
  obtain ⟨rfl, hP, hK⟩ := hv
  have X : mX D cI cZ p s m ([.ref (ad 0)] : List Value).toArray meth c cX5_next 1 (some .int) := ⟨⟨B.exec, B.bytes, hml, findClass_of_methodNamed B.named, fun w h => atoms_spec (ws := uX5_next) B.pre w (List.mem_cons_of_mem _ h)⟩, B.returns, B.notSynchronized, hK⟩
  have hl := lv_entry ([.ref (ad 0)]) (n := 1) (Nat.le_of_ble_eq_true rfl)
  rw [lg_entry_eq]
  generalize (lg_sl ([.ref (ad 0)]) ++ List.replicate (1 - (lg_sl ([.ref (ad 0)])).length) Slot.unset).toArray = ls at hl ⊢
  have hl : lv_has ls 1 [(0, .ref (ad 0))] := hl
  exact w5_next_0 X hP (lv_sub hl [0] rfl) hf
set_option maxRecDepth 100000 in
set_option maxHeartbeats 4000000 in
theorem k5_next {p : Program} {l : Launch} {e : Env} {R : Room} {s : State} {m : MethodId} {args : Array Value} {below : List Frame} {meth : Method} {c : Code} {cc : ByteArray} {nL : Nat} {ret : Option FieldType} {D : va_G} {cI cZ : ClassId} {ad : Nat → Nat} {v0 v1 v2 v3 v4 v5 v6 v7 v8 : Nat → Int32} {H : Heap} {locs : List Loc} {cells slots : Nat} {Q : State → Prop} {pc : Nat} {ls : Array Slot} {rest : List Value} (X : mX D cI cZ p s m args meth c cc nL ret) (hP : va_P D vwCl (mwW cI cZ ad v0 v1 v2 v3 v4 v5 v6 v7 v8) H) (hls : ls.size = nL) {index : Nat} (hG : GoodIn gw (wsV RX5 index RX5 yX5_next uX5_next)) (hR : rm5_next.frames + 1 ≤ R.frames ∧ 8 + (1 + 11) + rm5_next.locals ≤ R.locals) {t : Int32} (hf : f5_next_0 v0 v6 = some t) (hrest : (rest.map fun v => v.category).sum ≤ 8) (hdg : decode cc pc = .ok (.invokevirtual index, 3)) (hc : cells ≤ R.cells ∧ slots ≤ R.slots) (kk : W p l e R s m args below meth c H locs cells slots Q (F0 m (pc + 3) ls (.int t :: rest))) : W p l e R s m args below meth c H locs cells slots Q (F0 m pc ls (.ref (ad 0) :: rest)) :=
  W.callR (W.runV (As := []) X.1 (c5_next l hf) (cwV 0 X.1.2.2.2.2 hG rfl rfl rfl (by decide +kernel) hR) ⟨mB_bl, va_recv X.2.2.2 hP (ci := 5) (q0 := 0) rfl rfl, fun U hU hW => ⟨rfl, by rw [hU]; exact hP, va_K.moved hW.alike X.2.2.2⟩⟩ rfl rfl hls rfl (lv_room hrest) hdg hc) kk
/-! OreRailwayModel.sign(I)V -/
def rm5_sign : Room := { frames := 1, cells := 0, slots := 0, locals := 20 }
def f5_sign_41 (v6 : Nat → Int32) (y0 : Int32) (y1 : Int32) (v0 : Nat → Int32) : Option ((Nat → Int32)) := some (upd v0 11 (y1 + y0))
set_option maxRecDepth 100000 in
set_option maxHeartbeats 4000000 in
theorem w5_sign_41 {p : Program} {l : Launch} {e : Env} {s : State} {m : MethodId} {args : Array Value} {below : List Frame} {meth : Method} {c : Code} {D : va_G} {cI cZ : ClassId} {ad : Nat → Nat} {v0 v1 v2 v3 v4 v5 v6 v7 v8 : Nat → Int32} (X : mX D cI cZ p s m args meth c cX5_sign 2 none) (hI : mInj ad) {y0 : Int32} {y1 : Int32} {t : (Nat → Int32)}  {H : Heap} {locs : List Loc} (hH : mH D cI cZ ad v0 v1 v2 v3 v4 v5 v6 v7 v8 s H locs) {ls : Array Slot} (hl : lv_has ls 2 []) (hf : f5_sign_41 v6 y0 y1 v0 = some t) : W p l e rm5_sign s m args below meth c H locs 0 0 (MQ below (va_Qv (fun (_ : Unit) => True) (fun _ t9 => mB D cI cZ ad t v1 v2 v3 v4 v5 v6 v7 v8 t9) (mA ad s.heap.size)) args s 0 0 (mA ad s.heap.size)) (F0 m 41 ls [.int y0, .int y1, .ref (ad 0)]) := by
  obtain ⟨⟨hx, hb, hml, hown, hts⟩, hr, hlk, hK⟩ := id X
  replace hf : (some (upd v0 11 (y1 + y0))) = some t := hf
  refine lv_iadd hx hb dX5_sign_41 ?_
  refine mr_put X hI hH 11 (by decide) gfX5_144 rfl rfl dX5_sign_42 (fun H locs hH => ?_)
  obtain rfl := so_i hf
  exact mr_vw X hH rfl dX5_sign_45
def f5_sign_21 (v6 : Nat → Int32) (y0 : Int32) (v0 : Nat → Int32) : Option ((Nat → Int32)) := gz y0 (if ((upd v0 12 y0) 12) = 0 then (f5_sign_41 v6 1 ((upd v0 12 y0) 11) (upd v0 12 y0)) else (f5_sign_41 v6 0 ((upd v0 12 y0) 11) (upd v0 12 y0)))
set_option maxRecDepth 100000 in
set_option maxHeartbeats 4000000 in
theorem w5_sign_21 {p : Program} {l : Launch} {e : Env} {s : State} {m : MethodId} {args : Array Value} {below : List Frame} {meth : Method} {c : Code} {D : va_G} {cI cZ : ClassId} {ad : Nat → Nat} {v0 v1 v2 v3 v4 v5 v6 v7 v8 : Nat → Int32} (X : mX D cI cZ p s m args meth c cX5_sign 2 none) (hI : mInj ad) {y0 : Int32} {t : (Nat → Int32)}  {H : Heap} {locs : List Loc} (hH : mH D cI cZ ad v0 v1 v2 v3 v4 v5 v6 v7 v8 s H locs) {ls : Array Slot} (hl : lv_has ls 2 [(0, .ref (ad 0))]) (hf : f5_sign_21 v6 y0 v0 = some t) : W p l e rm5_sign s m args below meth c H locs 0 0 (MQ below (va_Qv (fun (_ : Unit) => True) (fun _ t9 => mB D cI cZ ad t v1 v2 v3 v4 v5 v6 v7 v8 t9) (mA ad s.heap.size)) args s 0 0 (mA ad s.heap.size)) (F0 m 21 ls [.int y0, .ref (ad 0)]) := by
  obtain ⟨⟨hx, hb, hml, hown, hts⟩, hr, hlk, hK⟩ := id X
  replace hf : (gz y0 (if ((upd v0 12 y0) 12) = 0 then (f5_sign_41 v6 1 ((upd v0 12 y0) 11) (upd v0 12 y0)) else (f5_sign_41 v6 0 ((upd v0 12 y0) 11) (upd v0 12 y0)))) = some t := hf
  obtain ⟨hz1, hf⟩ := gz_o hf
  refine mr_putz X hI hH 12 (by decide) gfX5_147 rfl rfl hz1 dX5_sign_21 (fun H locs hH => ?_)
  refine lv_aload_n hx hb dX5_sign_24 rfl (lv_at hl 0 rfl) ?_
  refine lv_dup hx hb dX5_sign_25 rfl ?_
  refine mr_get X hH.1 (k := 11) (v := .int ((upd v0 12 y0) 11)) (by decide) gfX5_144 rfl dX5_sign_26 ?_
  refine lv_aload_n hx hb dX5_sign_29 rfl (lv_at hl 0 rfl) ?_
  refine mr_get X hH.1 (k := 12) (v := .int ((upd v0 12 y0) 12)) (by decide) gfX5_147 rfl dX5_sign_30 ?_
  refine lv_if_eq (tgt := 40) hx hb dX5_sign_33 (by decide) (fun c2 => ?_) (fun c2 => ?_)
  · have hf := it_t c2 hf
    refine lv_iconst (v := 1) hx hb dX5_sign_40 (by decide) ?_
    exact w5_sign_41 X hI hH (lv_sub hl [] rfl) hf
  · have hf := it_f c2 hf
    refine lv_iconst (v := 0) hx hb dX5_sign_36 (by decide) ?_
    refine lv_goto (tgt := 41) hx hb dX5_sign_37 (by decide) ?_
    exact w5_sign_41 X hI hH (lv_sub hl [] rfl) hf
def f5_sign_16 (v6 : Nat → Int32) (v0 : Nat → Int32) : Option ((Nat → Int32)) := f5_sign_21 v6 1 v0
set_option maxRecDepth 100000 in
set_option maxHeartbeats 4000000 in
theorem w5_sign_16 {p : Program} {l : Launch} {e : Env} {s : State} {m : MethodId} {args : Array Value} {below : List Frame} {meth : Method} {c : Code} {D : va_G} {cI cZ : ClassId} {ad : Nat → Nat} {v0 v1 v2 v3 v4 v5 v6 v7 v8 : Nat → Int32} (X : mX D cI cZ p s m args meth c cX5_sign 2 none) (hI : mInj ad) {t : (Nat → Int32)}  {H : Heap} {locs : List Loc} (hH : mH D cI cZ ad v0 v1 v2 v3 v4 v5 v6 v7 v8 s H locs) {ls : Array Slot} (hl : lv_has ls 2 [(0, .ref (ad 0))]) (hf : f5_sign_16 v6 v0 = some t) : W p l e rm5_sign s m args below meth c H locs 0 0 (MQ below (va_Qv (fun (_ : Unit) => True) (fun _ t9 => mB D cI cZ ad t v1 v2 v3 v4 v5 v6 v7 v8 t9) (mA ad s.heap.size)) args s 0 0 (mA ad s.heap.size)) (F0 m 16 ls [.ref (ad 0)]) := by
  obtain ⟨⟨hx, hb, hml, hown, hts⟩, hr, hlk, hK⟩ := id X
  replace hf : (f5_sign_21 v6 1 v0) = some t := hf
  refine lv_iconst (v := 1) hx hb dX5_sign_16 (by decide) ?_
  refine lv_goto (tgt := 21) hx hb dX5_sign_17 (by decide) ?_
  exact w5_sign_21 X hI hH (lv_sub hl [0] rfl) hf
def f5_sign_0 (v6 : Nat → Int32) (x1 : Int32) (v0 : Nat → Int32) : Option ((Nat → Int32)) := if (v0 12) = 0 then (Option.bind (f5_next_0 v0 v6) (fun t2 => if t2 = x1 then (f5_sign_21 v6 0 v0) else (f5_sign_16 v6 v0))) else (f5_sign_16 v6 v0)
set_option maxRecDepth 100000 in
set_option maxHeartbeats 4000000 in
theorem w5_sign_0 {p : Program} {l : Launch} {e : Env} {s : State} {m : MethodId} {args : Array Value} {below : List Frame} {meth : Method} {c : Code} {D : va_G} {cI cZ : ClassId} {ad : Nat → Nat} {v0 v1 v2 v3 v4 v5 v6 v7 v8 : Nat → Int32} (X : mX D cI cZ p s m args meth c cX5_sign 2 none) (hI : mInj ad) {x1 : Int32} {t : (Nat → Int32)}  {H : Heap} {locs : List Loc} (hH : mH D cI cZ ad v0 v1 v2 v3 v4 v5 v6 v7 v8 s H locs) {ls : Array Slot} (hl : lv_has ls 2 [(0, .ref (ad 0)), (1, .int x1)]) (hf : f5_sign_0 v6 x1 v0 = some t) : W p l e rm5_sign s m args below meth c H locs 0 0 (MQ below (va_Qv (fun (_ : Unit) => True) (fun _ t9 => mB D cI cZ ad t v1 v2 v3 v4 v5 v6 v7 v8 t9) (mA ad s.heap.size)) args s 0 0 (mA ad s.heap.size)) (F0 m 0 ls []) := by
  obtain ⟨⟨hx, hb, hml, hown, hts⟩, hr, hlk, hK⟩ := id X
  replace hf : (if (v0 12) = 0 then (Option.bind (f5_next_0 v0 v6) (fun t2 => if t2 = x1 then (f5_sign_21 v6 0 v0) else (f5_sign_16 v6 v0))) else (f5_sign_16 v6 v0)) = some t := hf
  refine lv_aload_n hx hb dX5_sign_0 rfl (lv_at hl 0 rfl) ?_
  refine lv_aload_n hx hb dX5_sign_1 rfl (lv_at hl 0 rfl) ?_
  refine mr_get X hH.1 (k := 12) (v := .int (v0 12)) (by decide) gfX5_147 rfl dX5_sign_2 ?_
  refine lv_if_ne (tgt := 16) hx hb dX5_sign_5 (by decide) (fun c1 => ?_) (fun c1 => ?_)
  · have hf := it_f c1 hf
    exact w5_sign_16 X hI hH (lv_sub hl [0] rfl) hf
  · have hf := it_t c1 hf
    refine lv_aload_n hx hb dX5_sign_8 rfl (lv_at hl 0 rfl) ?_
    obtain ⟨t2, ht2, hf⟩ := bd_o hf
    refine k5_next X hH.1 hl.1 qX5_151 ⟨Nat.le_of_ble_eq_true rfl, Nat.le_of_ble_eq_true rfl⟩ ht2 (Nat.le_of_ble_eq_true rfl) dX5_sign_9 ⟨Nat.zero_le _, Nat.zero_le _⟩ ?_
    refine lv_iload_n hx hb dX5_sign_12 rfl (lv_at hl 1 rfl) ?_
    refine lv_icmp_eq (tgt := 20) hx hb dX5_sign_13 (by decide) (fun c3 => ?_) (fun c3 => ?_)
    · have hf := it_t c3 hf
      refine lv_iconst (v := 0) hx hb dX5_sign_20 (by decide) ?_
      exact w5_sign_21 X hI hH (lv_sub hl [0] rfl) hf
    · have hf := it_f c3 hf
      exact w5_sign_16 X hI hH (lv_sub hl [0] rfl) hf
set_option maxRecDepth 100000 in
set_option maxHeartbeats 4000000 in
theorem c5_sign (l : Launch) {D : va_G} {cI cZ : ClassId} {ad : Nat → Nat} {v0 v1 v2 v3 v4 v5 v6 v7 v8 : Nat → Int32} (hI : mInj ad) (sz : Nat) (x1 : Int32) {t : (Nat → Int32)} (hf : f5_sign_0 v6 x1 v0 = some t) : Met l yX5_sign uX5_sign rm5_sign (va_Pc [.ref (ad 0), .int x1] (fun U => U.heap.size = sz ∧ mB D cI cZ ad v0 v1 v2 v3 v4 v5 v6 v7 v8 U)) (va_Qv (fun (_ : Unit) => True) (fun _ t9 => mB D cI cZ ad t v1 v2 v3 v4 v5 v6 v7 v8 t9) (mA ad sz)) 0 0 (mA ad sz) := by
  refine Met.ofW (cc := cX5_sign) (maxL := 2) (ret := none) (by decide) rfl ?_
  intro p e s m args below meth c s₁ B hml hv
  obtain ⟨rfl, hsz, hP, hK⟩ := hv
  subst hsz
  have X : mX D cI cZ p s m ([.ref (ad 0), .int x1] : List Value).toArray meth c cX5_sign 2 none := ⟨⟨B.exec, B.bytes, hml, findClass_of_methodNamed B.named, fun w h => atoms_spec (ws := uX5_sign) B.pre w (List.mem_cons_of_mem _ h)⟩, B.returns, B.notSynchronized, hK⟩
  have hl := lv_entry ([.ref (ad 0), .int x1]) (n := 2) (Nat.le_of_ble_eq_true rfl)
  rw [lg_entry_eq]
  generalize (lg_sl ([.ref (ad 0), .int x1]) ++ List.replicate (2 - (lg_sl ([.ref (ad 0), .int x1])).length) Slot.unset).toArray = ls at hl ⊢
  have hl : lv_has ls 2 [(0, .ref (ad 0)), (1, .int x1)] := hl
  exact w5_sign_0 X hI ⟨hP, va_S.rf⟩ (lv_sub hl [0, 1] rfl) hf
set_option maxRecDepth 100000 in
set_option maxHeartbeats 4000000 in
theorem k5_sign {p : Program} {l : Launch} {e : Env} {R : Room} {s : State} {m : MethodId} {args : Array Value} {below : List Frame} {meth : Method} {c : Code} {cc : ByteArray} {nL : Nat} {ret : Option FieldType} {D : va_G} {cI cZ : ClassId} {ad : Nat → Nat} {v0 v1 v2 v3 v4 v5 v6 v7 v8 : Nat → Int32} {H : Heap} {locs : List Loc} {cells slots : Nat} {Q : State → Prop} {pc : Nat} {ls : Array Slot} {rest : List Value} (X : mX D cI cZ p s m args meth c cc nL ret) (hI : mInj ad) (hH : mH D cI cZ ad v0 v1 v2 v3 v4 v5 v6 v7 v8 s H locs) (hls : ls.size = nL) {index : Nat} (hG : GoodIn gw (wsV RX5 index RX5 yX5_sign uX5_sign)) (hR : rm5_sign.frames + 1 ≤ R.frames ∧ 8 + (2 + 11) + rm5_sign.locals ≤ R.locals) {x1 : Int32} {t : (Nat → Int32)} (hf : f5_sign_0 v6 x1 v0 = some t) (hrest : (rest.map fun v => v.category).sum ≤ 8) (hdg : decode cc pc = .ok (.invokevirtual index, 3)) (hc : cells ≤ R.cells ∧ slots ≤ R.slots) (kk : ∀ (H1 : Heap) (locs1 : List Loc), mH D cI cZ ad t v1 v2 v3 v4 v5 v6 v7 v8 s H1 locs1 → W p l e R s m args below meth c H1 locs1 cells slots Q (F0 m (pc + 3) ls (rest))) : W p l e R s m args below meth c H locs cells slots Q (F0 m pc ls (.int x1 :: .ref (ad 0) :: rest)) := by
  have hA : ∀ q, mA ad H.size q → mA ad s.heap.size q := fun q h => h.elim Or.inl (fun h => Or.inr (Nat.le_trans hH.2.1 h))
  refine va_callv (va_runV (As := [.int x1]) (rest := rest) X.1 (c5_sign l hI H.size x1 hf) (cwV 1 X.1.2.2.2.2 hG rfl rfl rfl (by decide +kernel) hR) ⟨mBs_bl, va_recv X.2.2.2 hH.1 (ci := 5) (q0 := 0) rfl rfl, fun U hU hW => ⟨rfl, by rw [hU], by rw [hU]; exact hH.1, va_K.moved hW.alike X.2.2.2⟩⟩ rfl rfl hls rfl (lv_room hrest) hdg hc) hH.2 (fun q _ h => hA q h) hA (fun u t9 H1 locs1 ht hvm hw hB hz1 hk1 hS => ?_)
  exact kk H1 locs1 ⟨by rw [← ht]; exact hB.1, hS⟩
/-! OreRailwayModel.digit(II)I -/
def rm5_digit : Room := { frames := 1, cells := 0, slots := 0, locals := 22 }
def f5_digit_50 (v6 : Nat → Int32) (x3 : Int32) (y0 : Int32) (y1 : Int32) (v0 : Nat → Int32) : Option (Int32 × (Nat → Int32)) := some (x3, upd v0 11 (y1 + y0))
set_option maxRecDepth 100000 in
set_option maxHeartbeats 4000000 in
theorem w5_digit_50 {p : Program} {l : Launch} {e : Env} {s : State} {m : MethodId} {args : Array Value} {below : List Frame} {meth : Method} {c : Code} {D : va_G} {cI cZ : ClassId} {ad : Nat → Nat} {v0 v1 v2 v3 v4 v5 v6 v7 v8 : Nat → Int32} (X : mX D cI cZ p s m args meth c cX5_digit 4 (some .int)) (hI : mInj ad) {x3 : Int32} {y0 : Int32} {y1 : Int32} {t : Int32 × (Nat → Int32)}  {H : Heap} {locs : List Loc} (hH : mH D cI cZ ad v0 v1 v2 v3 v4 v5 v6 v7 v8 s H locs) {ls : Array Slot} (hl : lv_has ls 4 [(3, .int x3)]) (hf : f5_digit_50 v6 x3 y0 y1 v0 = some t) : W p l e rm5_digit s m args below meth c H locs 0 0 (MQ below (va_Qi (fun (r9 : Int32) (_ : Unit) => r9 = t.1) (fun _ t9 => mB D cI cZ ad t.2 v1 v2 v3 v4 v5 v6 v7 v8 t9) (mA ad s.heap.size)) args s 0 0 (mA ad s.heap.size)) (F0 m 50 ls [.int y0, .int y1, .ref (ad 0)]) := by
  obtain ⟨⟨hx, hb, hml, hown, hts⟩, hr, hlk, hK⟩ := id X
  replace hf : (some (x3, upd v0 11 (y1 + y0))) = some t := hf
  refine lv_iadd hx hb dX5_digit_50 ?_
  refine mr_put X hI hH 11 (by decide) gfX5_144 rfl rfl dX5_digit_51 (fun H locs hH => ?_)
  refine lv_iload_n hx hb dX5_digit_54 rfl (lv_at hl 0 rfl) ?_
  obtain rfl := so_i hf
  exact mr_iw X hH rfl dX5_digit_55
def f5_digit_30 (v6 : Nat → Int32) (x3 : Int32) (y0 : Int32) (v0 : Nat → Int32) : Option (Int32 × (Nat → Int32)) := gz y0 (if ((upd v0 12 y0) 12) = 0 then (f5_digit_50 v6 x3 1 ((upd v0 12 y0) 11) (upd v0 12 y0)) else (f5_digit_50 v6 x3 0 ((upd v0 12 y0) 11) (upd v0 12 y0)))
set_option maxRecDepth 100000 in
set_option maxHeartbeats 4000000 in
theorem w5_digit_30 {p : Program} {l : Launch} {e : Env} {s : State} {m : MethodId} {args : Array Value} {below : List Frame} {meth : Method} {c : Code} {D : va_G} {cI cZ : ClassId} {ad : Nat → Nat} {v0 v1 v2 v3 v4 v5 v6 v7 v8 : Nat → Int32} (X : mX D cI cZ p s m args meth c cX5_digit 4 (some .int)) (hI : mInj ad) {x3 : Int32} {y0 : Int32} {t : Int32 × (Nat → Int32)}  {H : Heap} {locs : List Loc} (hH : mH D cI cZ ad v0 v1 v2 v3 v4 v5 v6 v7 v8 s H locs) {ls : Array Slot} (hl : lv_has ls 4 [(0, .ref (ad 0)), (3, .int x3)]) (hf : f5_digit_30 v6 x3 y0 v0 = some t) : W p l e rm5_digit s m args below meth c H locs 0 0 (MQ below (va_Qi (fun (r9 : Int32) (_ : Unit) => r9 = t.1) (fun _ t9 => mB D cI cZ ad t.2 v1 v2 v3 v4 v5 v6 v7 v8 t9) (mA ad s.heap.size)) args s 0 0 (mA ad s.heap.size)) (F0 m 30 ls [.int y0, .ref (ad 0)]) := by
  obtain ⟨⟨hx, hb, hml, hown, hts⟩, hr, hlk, hK⟩ := id X
  replace hf : (gz y0 (if ((upd v0 12 y0) 12) = 0 then (f5_digit_50 v6 x3 1 ((upd v0 12 y0) 11) (upd v0 12 y0)) else (f5_digit_50 v6 x3 0 ((upd v0 12 y0) 11) (upd v0 12 y0)))) = some t := hf
  obtain ⟨hz1, hf⟩ := gz_o hf
  refine mr_putz X hI hH 12 (by decide) gfX5_147 rfl rfl hz1 dX5_digit_30 (fun H locs hH => ?_)
  refine lv_aload_n hx hb dX5_digit_33 rfl (lv_at hl 0 rfl) ?_
  refine lv_dup hx hb dX5_digit_34 rfl ?_
  refine mr_get X hH.1 (k := 11) (v := .int ((upd v0 12 y0) 11)) (by decide) gfX5_144 rfl dX5_digit_35 ?_
  refine lv_aload_n hx hb dX5_digit_38 rfl (lv_at hl 0 rfl) ?_
  refine mr_get X hH.1 (k := 12) (v := .int ((upd v0 12 y0) 12)) (by decide) gfX5_147 rfl dX5_digit_39 ?_
  refine lv_if_eq (tgt := 49) hx hb dX5_digit_42 (by decide) (fun c2 => ?_) (fun c2 => ?_)
  · have hf := it_t c2 hf
    refine lv_iconst (v := 1) hx hb dX5_digit_49 (by decide) ?_
    exact w5_digit_50 X hI hH (lv_sub hl [1] rfl) hf
  · have hf := it_f c2 hf
    refine lv_iconst (v := 0) hx hb dX5_digit_45 (by decide) ?_
    refine lv_goto (tgt := 50) hx hb dX5_digit_46 (by decide) ?_
    exact w5_digit_50 X hI hH (lv_sub hl [1] rfl) hf
def f5_digit_25 (v6 : Nat → Int32) (x3 : Int32) (v0 : Nat → Int32) : Option (Int32 × (Nat → Int32)) := f5_digit_30 v6 x3 1 v0
set_option maxRecDepth 100000 in
set_option maxHeartbeats 4000000 in
theorem w5_digit_25 {p : Program} {l : Launch} {e : Env} {s : State} {m : MethodId} {args : Array Value} {below : List Frame} {meth : Method} {c : Code} {D : va_G} {cI cZ : ClassId} {ad : Nat → Nat} {v0 v1 v2 v3 v4 v5 v6 v7 v8 : Nat → Int32} (X : mX D cI cZ p s m args meth c cX5_digit 4 (some .int)) (hI : mInj ad) {x3 : Int32} {t : Int32 × (Nat → Int32)}  {H : Heap} {locs : List Loc} (hH : mH D cI cZ ad v0 v1 v2 v3 v4 v5 v6 v7 v8 s H locs) {ls : Array Slot} (hl : lv_has ls 4 [(0, .ref (ad 0)), (3, .int x3)]) (hf : f5_digit_25 v6 x3 v0 = some t) : W p l e rm5_digit s m args below meth c H locs 0 0 (MQ below (va_Qi (fun (r9 : Int32) (_ : Unit) => r9 = t.1) (fun _ t9 => mB D cI cZ ad t.2 v1 v2 v3 v4 v5 v6 v7 v8 t9) (mA ad s.heap.size)) args s 0 0 (mA ad s.heap.size)) (F0 m 25 ls [.ref (ad 0)]) := by
  obtain ⟨⟨hx, hb, hml, hown, hts⟩, hr, hlk, hK⟩ := id X
  replace hf : (f5_digit_30 v6 x3 1 v0) = some t := hf
  refine lv_iconst (v := 1) hx hb dX5_digit_25 (by decide) ?_
  refine lv_goto (tgt := 30) hx hb dX5_digit_26 (by decide) ?_
  exact w5_digit_30 X hI hH (lv_sub hl [0, 1] rfl) hf
def f5_digit_0 (v6 : Nat → Int32) (x1 : Int32) (x2 : Int32) (v0 : Nat → Int32) : Option (Int32 × (Nat → Int32)) := Option.bind (f5_next_0 v0 v6) (fun t1 => if (v0 12) = 0 then (Option.bind (f5_in_0 (t1 - 48) x1 x2) (fun t3 => if t3 = 0 then (f5_digit_25 v6 (t1 - 48) v0) else (f5_digit_30 v6 (t1 - 48) 0 v0))) else (f5_digit_25 v6 (t1 - 48) v0))
set_option maxRecDepth 100000 in
set_option maxHeartbeats 4000000 in
theorem w5_digit_0 {p : Program} {l : Launch} {e : Env} {s : State} {m : MethodId} {args : Array Value} {below : List Frame} {meth : Method} {c : Code} {D : va_G} {cI cZ : ClassId} {ad : Nat → Nat} {v0 v1 v2 v3 v4 v5 v6 v7 v8 : Nat → Int32} (X : mX D cI cZ p s m args meth c cX5_digit 4 (some .int)) (hI : mInj ad) {x1 : Int32} {x2 : Int32} {t : Int32 × (Nat → Int32)}  {H : Heap} {locs : List Loc} (hH : mH D cI cZ ad v0 v1 v2 v3 v4 v5 v6 v7 v8 s H locs) {ls : Array Slot} (hl : lv_has ls 4 [(0, .ref (ad 0)), (1, .int x1), (2, .int x2)]) (hf : f5_digit_0 v6 x1 x2 v0 = some t) : W p l e rm5_digit s m args below meth c H locs 0 0 (MQ below (va_Qi (fun (r9 : Int32) (_ : Unit) => r9 = t.1) (fun _ t9 => mB D cI cZ ad t.2 v1 v2 v3 v4 v5 v6 v7 v8 t9) (mA ad s.heap.size)) args s 0 0 (mA ad s.heap.size)) (F0 m 0 ls []) := by
  obtain ⟨⟨hx, hb, hml, hown, hts⟩, hr, hlk, hK⟩ := id X
  replace hf : (Option.bind (f5_next_0 v0 v6) (fun t1 => if (v0 12) = 0 then (Option.bind (f5_in_0 (t1 - 48) x1 x2) (fun t3 => if t3 = 0 then (f5_digit_25 v6 (t1 - 48) v0) else (f5_digit_30 v6 (t1 - 48) 0 v0))) else (f5_digit_25 v6 (t1 - 48) v0))) = some t := hf
  refine lv_aload_n hx hb dX5_digit_0 rfl (lv_at hl 0 rfl) ?_
  obtain ⟨t1, ht1, hf⟩ := bd_o hf
  refine k5_next X hH.1 hl.1 qX5_151 ⟨Nat.le_of_ble_eq_true rfl, Nat.le_of_ble_eq_true rfl⟩ ht1 (Nat.le_of_ble_eq_true rfl) dX5_digit_1 ⟨Nat.zero_le _, Nat.zero_le _⟩ ?_
  refine lv_bipush (v := 48) hx hb dX5_digit_4 (by decide) ?_
  refine lv_isub hx hb dX5_digit_6 ?_
  refine lv_istore_n (lv' := [(3, .int (t1 - 48)), (0, .ref (ad 0)), (1, .int x1), (2, .int x2)]) hx hb dX5_digit_7 rfl hl (by decide) rfl (fun ls hl => ?_)
  refine lv_aload_n hx hb dX5_digit_8 rfl (lv_at hl 1 rfl) ?_
  refine lv_aload_n hx hb dX5_digit_9 rfl (lv_at hl 1 rfl) ?_
  refine mr_get X hH.1 (k := 12) (v := .int (v0 12)) (by decide) gfX5_147 rfl dX5_digit_10 ?_
  refine lv_if_ne (tgt := 25) hx hb dX5_digit_13 (by decide) (fun c2 => ?_) (fun c2 => ?_)
  · have hf := it_f c2 hf
    exact w5_digit_25 X hI hH (lv_sub hl [1, 0] rfl) hf
  · have hf := it_t c2 hf
    refine lv_iload_n hx hb dX5_digit_16 rfl (lv_at hl 0 rfl) ?_
    refine lv_iload_n hx hb dX5_digit_17 rfl (lv_at hl 2 rfl) ?_
    refine lv_iload_n hx hb dX5_digit_18 rfl (lv_at hl 3 rfl) ?_
    obtain ⟨t3, ht3, hf⟩ := bd_o hf
    refine k5_in X.1 hl.1 qX5_39 ⟨Nat.le_of_ble_eq_true rfl, Nat.le_of_ble_eq_true rfl⟩ ht3 (Nat.le_of_ble_eq_true rfl) dX5_digit_19 ⟨Nat.zero_le _, Nat.zero_le _⟩ ?_
    refine lv_if_ne (tgt := 29) hx hb dX5_digit_22 (by decide) (fun c4 => ?_) (fun c4 => ?_)
    · have hf := it_f c4 hf
      refine lv_iconst (v := 0) hx hb dX5_digit_29 (by decide) ?_
      exact w5_digit_30 X hI hH (lv_sub hl [1, 0] rfl) hf
    · have hf := it_t c4 hf
      exact w5_digit_25 X hI hH (lv_sub hl [1, 0] rfl) hf
set_option maxRecDepth 100000 in
set_option maxHeartbeats 4000000 in
theorem c5_digit (l : Launch) {D : va_G} {cI cZ : ClassId} {ad : Nat → Nat} {v0 v1 v2 v3 v4 v5 v6 v7 v8 : Nat → Int32} (hI : mInj ad) (sz : Nat) (x1 : Int32) (x2 : Int32) {t : Int32 × (Nat → Int32)} (hf : f5_digit_0 v6 x1 x2 v0 = some t) : Met l yX5_digit uX5_digit rm5_digit (va_Pc [.ref (ad 0), .int x1, .int x2] (fun U => U.heap.size = sz ∧ mB D cI cZ ad v0 v1 v2 v3 v4 v5 v6 v7 v8 U)) (va_Qi (fun (r9 : Int32) (_ : Unit) => r9 = t.1) (fun _ t9 => mB D cI cZ ad t.2 v1 v2 v3 v4 v5 v6 v7 v8 t9) (mA ad sz)) 0 0 (mA ad sz) := by
  refine Met.ofW (cc := cX5_digit) (maxL := 4) (ret := (some .int)) (by decide) rfl ?_
  intro p e s m args below meth c s₁ B hml hv
  obtain ⟨rfl, hsz, hP, hK⟩ := hv
  subst hsz
  have X : mX D cI cZ p s m ([.ref (ad 0), .int x1, .int x2] : List Value).toArray meth c cX5_digit 4 (some .int) := ⟨⟨B.exec, B.bytes, hml, findClass_of_methodNamed B.named, fun w h => atoms_spec (ws := uX5_digit) B.pre w (List.mem_cons_of_mem _ h)⟩, B.returns, B.notSynchronized, hK⟩
  have hl := lv_entry ([.ref (ad 0), .int x1, .int x2]) (n := 4) (Nat.le_of_ble_eq_true rfl)
  rw [lg_entry_eq]
  generalize (lg_sl ([.ref (ad 0), .int x1, .int x2]) ++ List.replicate (4 - (lg_sl ([.ref (ad 0), .int x1, .int x2])).length) Slot.unset).toArray = ls at hl ⊢
  have hl : lv_has ls 4 [(0, .ref (ad 0)), (1, .int x1), (2, .int x2)] := hl
  exact w5_digit_0 X hI ⟨hP, va_S.rf⟩ (lv_sub hl [0, 1, 2] rfl) hf
set_option maxRecDepth 100000 in
set_option maxHeartbeats 4000000 in
theorem k5_digit {p : Program} {l : Launch} {e : Env} {R : Room} {s : State} {m : MethodId} {args : Array Value} {below : List Frame} {meth : Method} {c : Code} {cc : ByteArray} {nL : Nat} {ret : Option FieldType} {D : va_G} {cI cZ : ClassId} {ad : Nat → Nat} {v0 v1 v2 v3 v4 v5 v6 v7 v8 : Nat → Int32} {H : Heap} {locs : List Loc} {cells slots : Nat} {Q : State → Prop} {pc : Nat} {ls : Array Slot} {rest : List Value} (X : mX D cI cZ p s m args meth c cc nL ret) (hI : mInj ad) (hH : mH D cI cZ ad v0 v1 v2 v3 v4 v5 v6 v7 v8 s H locs) (hls : ls.size = nL) {index : Nat} (hG : GoodIn gw (wsV RX5 index RX5 yX5_digit uX5_digit)) (hR : rm5_digit.frames + 1 ≤ R.frames ∧ 8 + (4 + 11) + rm5_digit.locals ≤ R.locals) {x1 : Int32} {x2 : Int32} {t : Int32 × (Nat → Int32)} (hf : f5_digit_0 v6 x1 x2 v0 = some t) (hrest : (rest.map fun v => v.category).sum ≤ 8) (hdg : decode cc pc = .ok (.invokevirtual index, 3)) (hc : cells ≤ R.cells ∧ slots ≤ R.slots) (kk : ∀ (H1 : Heap) (locs1 : List Loc), mH D cI cZ ad t.2 v1 v2 v3 v4 v5 v6 v7 v8 s H1 locs1 → W p l e R s m args below meth c H1 locs1 cells slots Q (F0 m (pc + 3) ls (.int t.1 :: rest))) : W p l e R s m args below meth c H locs cells slots Q (F0 m pc ls (.int x2 :: .int x1 :: .ref (ad 0) :: rest)) := by
  have hA : ∀ q, mA ad H.size q → mA ad s.heap.size q := fun q h => h.elim Or.inl (fun h => Or.inr (Nat.le_trans hH.2.1 h))
  refine va_calli (va_runV (As := [.int x1, .int x2]) (rest := rest) X.1 (c5_digit l hI H.size x1 x2 hf) (cwV 2 X.1.2.2.2.2 hG rfl rfl rfl (by decide +kernel) hR) ⟨mBs_bl, va_recv X.2.2.2 hH.1 (ci := 5) (q0 := 0) rfl rfl, fun U hU hW => ⟨rfl, by rw [hU], by rw [hU]; exact hH.1, va_K.moved hW.alike X.2.2.2⟩⟩ rfl rfl hls rfl (lv_room hrest) hdg hc) hH.2 (fun q _ h => hA q h) hA (fun r9 u t9 H1 locs1 ht hvm hw hB hz1 hk1 hS => ?_)
  subst hw
  exact kk H1 locs1 ⟨by rw [← ht]; exact hB.1, hS⟩
/-! OreRailwayModel.number(I)I -/
def rm5_number : Room := { frames := 2, cells := 0, slots := 0, locals := 45 }
def f5_number_59 (v6 : Nat → Int32) (x2 : Int32) (v0 : Nat → Int32) : Option (Int32 × (Nat → Int32)) := some (x2, v0)
set_option maxRecDepth 100000 in
set_option maxHeartbeats 4000000 in
theorem w5_number_59 {p : Program} {l : Launch} {e : Env} {s : State} {m : MethodId} {args : Array Value} {below : List Frame} {meth : Method} {c : Code} {D : va_G} {cI cZ : ClassId} {ad : Nat → Nat} {v0 v1 v2 v3 v4 v5 v6 v7 v8 : Nat → Int32} (X : mX D cI cZ p s m args meth c cX5_number 4 (some .int)) (hI : mInj ad) {x2 : Int32} {t : Int32 × (Nat → Int32)}  {H : Heap} {locs : List Loc} (hH : mH D cI cZ ad v0 v1 v2 v3 v4 v5 v6 v7 v8 s H locs) {ls : Array Slot} (hl : lv_has ls 4 [(2, .int x2)]) (hf : f5_number_59 v6 x2 v0 = some t) : W p l e rm5_number s m args below meth c H locs 0 0 (MQ below (va_Qi (fun (r9 : Int32) (_ : Unit) => r9 = t.1) (fun _ t9 => mB D cI cZ ad t.2 v1 v2 v3 v4 v5 v6 v7 v8 t9) (mA ad s.heap.size)) args s 0 0 (mA ad s.heap.size)) (F0 m 59 ls []) := by
  obtain ⟨⟨hx, hb, hml, hown, hts⟩, hr, hlk, hK⟩ := id X
  replace hf : (some (x2, v0)) = some t := hf
  refine lv_iload_n hx hb dX5_number_59 rfl (lv_at hl 0 rfl) ?_
  obtain rfl := so_i hf
  exact mr_iw X hH rfl dX5_number_60
def f5_number_0 (v6 : Nat → Int32) (x1 : Int32) (v0 : Nat → Int32) : Option (Int32 × (Nat → Int32)) := Option.bind (f5_digit_0 v6 1 9 v0) (fun t1 => Option.bind (f5_next_0 t1.2 v6) (fun t2 => if (t1.2 12) = 0 then (Option.bind (f5_next_0 t1.2 v6) (fun t4 => Option.bind (f5_in_0 t4 48 57) (fun t5 => if t5 = 0 then (f5_number_59 v6 t1.1 t1.2) else (if x1 < (((10 * t1.1) + t2) - 48) then (f5_number_59 v6 t1.1 t1.2) else (some (((10 * t1.1) + t2) - 48, upd t1.2 11 ((t1.2 11) + 1))))))) else (f5_number_59 v6 t1.1 t1.2)))
set_option maxRecDepth 100000 in
set_option maxHeartbeats 4000000 in
theorem w5_number_0 {p : Program} {l : Launch} {e : Env} {s : State} {m : MethodId} {args : Array Value} {below : List Frame} {meth : Method} {c : Code} {D : va_G} {cI cZ : ClassId} {ad : Nat → Nat} {v0 v1 v2 v3 v4 v5 v6 v7 v8 : Nat → Int32} (X : mX D cI cZ p s m args meth c cX5_number 4 (some .int)) (hI : mInj ad) {x1 : Int32} {t : Int32 × (Nat → Int32)}  {H : Heap} {locs : List Loc} (hH : mH D cI cZ ad v0 v1 v2 v3 v4 v5 v6 v7 v8 s H locs) {ls : Array Slot} (hl : lv_has ls 4 [(0, .ref (ad 0)), (1, .int x1)]) (hf : f5_number_0 v6 x1 v0 = some t) : W p l e rm5_number s m args below meth c H locs 0 0 (MQ below (va_Qi (fun (r9 : Int32) (_ : Unit) => r9 = t.1) (fun _ t9 => mB D cI cZ ad t.2 v1 v2 v3 v4 v5 v6 v7 v8 t9) (mA ad s.heap.size)) args s 0 0 (mA ad s.heap.size)) (F0 m 0 ls []) := by
  obtain ⟨⟨hx, hb, hml, hown, hts⟩, hr, hlk, hK⟩ := id X
  replace hf : (Option.bind (f5_digit_0 v6 1 9 v0) (fun t1 => Option.bind (f5_next_0 t1.2 v6) (fun t2 => if (t1.2 12) = 0 then (Option.bind (f5_next_0 t1.2 v6) (fun t4 => Option.bind (f5_in_0 t4 48 57) (fun t5 => if t5 = 0 then (f5_number_59 v6 t1.1 t1.2) else (if x1 < (((10 * t1.1) + t2) - 48) then (f5_number_59 v6 t1.1 t1.2) else (some (((10 * t1.1) + t2) - 48, upd t1.2 11 ((t1.2 11) + 1))))))) else (f5_number_59 v6 t1.1 t1.2)))) = some t := hf
  refine lv_aload_n hx hb dX5_number_0 rfl (lv_at hl 0 rfl) ?_
  refine lv_iconst (v := 1) hx hb dX5_number_1 (by decide) ?_
  refine lv_bipush (v := 9) hx hb dX5_number_2 (by decide) ?_
  obtain ⟨t1, ht1, hf⟩ := bd_o hf
  refine k5_digit X hI hH hl.1 qX5_154 ⟨Nat.le_of_ble_eq_true rfl, Nat.le_of_ble_eq_true rfl⟩ ht1 (Nat.le_of_ble_eq_true rfl) dX5_number_4 ⟨Nat.zero_le _, Nat.zero_le _⟩ (fun H locs hH => ?_)
  refine lv_istore_n (lv' := [(2, .int t1.1), (0, .ref (ad 0)), (1, .int x1)]) hx hb dX5_number_7 rfl hl (by decide) rfl (fun ls hl => ?_)
  refine lv_bipush (v := 10) hx hb dX5_number_8 (by decide) ?_
  refine lv_iload_n hx hb dX5_number_10 rfl (lv_at hl 0 rfl) ?_
  refine lv_imul hx hb dX5_number_11 ?_
  refine lv_aload_n hx hb dX5_number_12 rfl (lv_at hl 1 rfl) ?_
  obtain ⟨t2, ht2, hf⟩ := bd_o hf
  refine k5_next X hH.1 hl.1 qX5_151 ⟨Nat.le_of_ble_eq_true rfl, Nat.le_of_ble_eq_true rfl⟩ ht2 (Nat.le_of_ble_eq_true rfl) dX5_number_13 ⟨Nat.zero_le _, Nat.zero_le _⟩ ?_
  refine lv_iadd hx hb dX5_number_16 ?_
  refine lv_bipush (v := 48) hx hb dX5_number_17 (by decide) ?_
  refine lv_isub hx hb dX5_number_19 ?_
  refine lv_istore_n (lv' := [(3, .int (((10 * t1.1) + t2) - 48)), (2, .int t1.1), (0, .ref (ad 0)), (1, .int x1)]) hx hb dX5_number_20 rfl hl (by decide) rfl (fun ls hl => ?_)
  refine lv_aload_n hx hb dX5_number_21 rfl (lv_at hl 2 rfl) ?_
  refine mr_get X hH.1 (k := 12) (v := .int (t1.2 12)) (by decide) gfX5_147 rfl dX5_number_22 ?_
  refine lv_if_ne (tgt := 59) hx hb dX5_number_25 (by decide) (fun c3 => ?_) (fun c3 => ?_)
  · have hf := it_f c3 hf
    exact w5_number_59 X hI hH (lv_sub hl [1] rfl) hf
  · have hf := it_t c3 hf
    refine lv_aload_n hx hb dX5_number_28 rfl (lv_at hl 2 rfl) ?_
    obtain ⟨t4, ht4, hf⟩ := bd_o hf
    refine k5_next X hH.1 hl.1 qX5_151 ⟨Nat.le_of_ble_eq_true rfl, Nat.le_of_ble_eq_true rfl⟩ ht4 (Nat.le_of_ble_eq_true rfl) dX5_number_29 ⟨Nat.zero_le _, Nat.zero_le _⟩ ?_
    refine lv_bipush (v := 48) hx hb dX5_number_32 (by decide) ?_
    refine lv_bipush (v := 57) hx hb dX5_number_34 (by decide) ?_
    obtain ⟨t5, ht5, hf⟩ := bd_o hf
    refine k5_in X.1 hl.1 qX5_39 ⟨Nat.le_of_ble_eq_true rfl, Nat.le_of_ble_eq_true rfl⟩ ht5 (Nat.le_of_ble_eq_true rfl) dX5_number_36 ⟨Nat.zero_le _, Nat.zero_le _⟩ ?_
    refine lv_if_eq (tgt := 59) hx hb dX5_number_39 (by decide) (fun c6 => ?_) (fun c6 => ?_)
    · have hf := it_t c6 hf
      exact w5_number_59 X hI hH (lv_sub hl [1] rfl) hf
    · have hf := it_f c6 hf
      refine lv_iload_n hx hb dX5_number_42 rfl (lv_at hl 0 rfl) ?_
      refine lv_iload_n hx hb dX5_number_43 rfl (lv_at hl 3 rfl) ?_
      refine lv_icmp_gt (tgt := 59) hx hb dX5_number_44 (by decide) (fun c7 => ?_) (fun c7 => ?_)
      · have hf := it_t c7 hf
        exact w5_number_59 X hI hH (lv_sub hl [1] rfl) hf
      · have hf := it_f c7 hf
        refine lv_aload_n hx hb dX5_number_47 rfl (lv_at hl 2 rfl) ?_
        refine lv_dup hx hb dX5_number_48 rfl ?_
        refine mr_get X hH.1 (k := 11) (v := .int (t1.2 11)) (by decide) gfX5_144 rfl dX5_number_49 ?_
        refine lv_iconst (v := 1) hx hb dX5_number_52 (by decide) ?_
        refine lv_iadd hx hb dX5_number_53 ?_
        refine mr_put X hI hH 11 (by decide) gfX5_144 rfl rfl dX5_number_54 (fun H locs hH => ?_)
        refine lv_iload_n hx hb dX5_number_57 rfl (lv_at hl 0 rfl) ?_
        obtain rfl := so_i hf
        exact mr_iw X hH rfl dX5_number_58
set_option maxRecDepth 100000 in
set_option maxHeartbeats 4000000 in
theorem c5_number (l : Launch) {D : va_G} {cI cZ : ClassId} {ad : Nat → Nat} {v0 v1 v2 v3 v4 v5 v6 v7 v8 : Nat → Int32} (hI : mInj ad) (sz : Nat) (x1 : Int32) {t : Int32 × (Nat → Int32)} (hf : f5_number_0 v6 x1 v0 = some t) : Met l yX5_number uX5_number rm5_number (va_Pc [.ref (ad 0), .int x1] (fun U => U.heap.size = sz ∧ mB D cI cZ ad v0 v1 v2 v3 v4 v5 v6 v7 v8 U)) (va_Qi (fun (r9 : Int32) (_ : Unit) => r9 = t.1) (fun _ t9 => mB D cI cZ ad t.2 v1 v2 v3 v4 v5 v6 v7 v8 t9) (mA ad sz)) 0 0 (mA ad sz) := by
  refine Met.ofW (cc := cX5_number) (maxL := 4) (ret := (some .int)) (by decide) rfl ?_
  intro p e s m args below meth c s₁ B hml hv
  obtain ⟨rfl, hsz, hP, hK⟩ := hv
  subst hsz
  have X : mX D cI cZ p s m ([.ref (ad 0), .int x1] : List Value).toArray meth c cX5_number 4 (some .int) := ⟨⟨B.exec, B.bytes, hml, findClass_of_methodNamed B.named, fun w h => atoms_spec (ws := uX5_number) B.pre w (List.mem_cons_of_mem _ h)⟩, B.returns, B.notSynchronized, hK⟩
  have hl := lv_entry ([.ref (ad 0), .int x1]) (n := 4) (Nat.le_of_ble_eq_true rfl)
  rw [lg_entry_eq]
  generalize (lg_sl ([.ref (ad 0), .int x1]) ++ List.replicate (4 - (lg_sl ([.ref (ad 0), .int x1])).length) Slot.unset).toArray = ls at hl ⊢
  have hl : lv_has ls 4 [(0, .ref (ad 0)), (1, .int x1)] := hl
  exact w5_number_0 X hI ⟨hP, va_S.rf⟩ (lv_sub hl [0, 1] rfl) hf
set_option maxRecDepth 100000 in
set_option maxHeartbeats 4000000 in
theorem k5_number {p : Program} {l : Launch} {e : Env} {R : Room} {s : State} {m : MethodId} {args : Array Value} {below : List Frame} {meth : Method} {c : Code} {cc : ByteArray} {nL : Nat} {ret : Option FieldType} {D : va_G} {cI cZ : ClassId} {ad : Nat → Nat} {v0 v1 v2 v3 v4 v5 v6 v7 v8 : Nat → Int32} {H : Heap} {locs : List Loc} {cells slots : Nat} {Q : State → Prop} {pc : Nat} {ls : Array Slot} {rest : List Value} (X : mX D cI cZ p s m args meth c cc nL ret) (hI : mInj ad) (hH : mH D cI cZ ad v0 v1 v2 v3 v4 v5 v6 v7 v8 s H locs) (hls : ls.size = nL) {index : Nat} (hG : GoodIn gw (wsV RX5 index RX5 yX5_number uX5_number)) (hR : rm5_number.frames + 1 ≤ R.frames ∧ 8 + (4 + 11) + rm5_number.locals ≤ R.locals) {x1 : Int32} {t : Int32 × (Nat → Int32)} (hf : f5_number_0 v6 x1 v0 = some t) (hrest : (rest.map fun v => v.category).sum ≤ 8) (hdg : decode cc pc = .ok (.invokevirtual index, 3)) (hc : cells ≤ R.cells ∧ slots ≤ R.slots) (kk : ∀ (H1 : Heap) (locs1 : List Loc), mH D cI cZ ad t.2 v1 v2 v3 v4 v5 v6 v7 v8 s H1 locs1 → W p l e R s m args below meth c H1 locs1 cells slots Q (F0 m (pc + 3) ls (.int t.1 :: rest))) : W p l e R s m args below meth c H locs cells slots Q (F0 m pc ls (.int x1 :: .ref (ad 0) :: rest)) := by
  have hA : ∀ q, mA ad H.size q → mA ad s.heap.size q := fun q h => h.elim Or.inl (fun h => Or.inr (Nat.le_trans hH.2.1 h))
  refine va_calli (va_runV (As := [.int x1]) (rest := rest) X.1 (c5_number l hI H.size x1 hf) (cwV 1 X.1.2.2.2.2 hG rfl rfl rfl (by decide +kernel) hR) ⟨mBs_bl, va_recv X.2.2.2 hH.1 (ci := 5) (q0 := 0) rfl rfl, fun U hU hW => ⟨rfl, by rw [hU], by rw [hU]; exact hH.1, va_K.moved hW.alike X.2.2.2⟩⟩ rfl rfl hls rfl (lv_room hrest) hdg hc) hH.2 (fun q _ h => hA q h) hA (fun r9 u t9 H1 locs1 ht hvm hw hB hz1 hk1 hS => ?_)
  subst hw
  exact kk H1 locs1 ⟨by rw [← ht]; exact hB.1, hS⟩
/-! OreRailwayModel.order()V -/
def rm5_order : Room := { frames := 3, cells := 0, slots := 0, locals := 68 }
def f5_order_219 (v6 : Nat → Int32) (v0 : Nat → Int32) : Option ((Nat → Int32)) := some (v0)
set_option maxRecDepth 100000 in
set_option maxHeartbeats 4000000 in
theorem w5_order_219 {p : Program} {l : Launch} {e : Env} {s : State} {m : MethodId} {args : Array Value} {below : List Frame} {meth : Method} {c : Code} {D : va_G} {cI cZ : ClassId} {ad : Nat → Nat} {v0 v1 v2 v3 v4 v5 v6 v7 v8 : Nat → Int32} (X : mX D cI cZ p s m args meth c cX5_order 1 none) (hI : mInj ad) {t : (Nat → Int32)}  {H : Heap} {locs : List Loc} (hH : mH D cI cZ ad v0 v1 v2 v3 v4 v5 v6 v7 v8 s H locs) {ls : Array Slot} (hl : lv_has ls 1 []) (hf : f5_order_219 v6 v0 = some t) : W p l e rm5_order s m args below meth c H locs 0 0 (MQ below (va_Qv (fun (_ : Unit) => True) (fun _ t9 => mB D cI cZ ad t v1 v2 v3 v4 v5 v6 v7 v8 t9) (mA ad s.heap.size)) args s 0 0 (mA ad s.heap.size)) (F0 m 219 ls []) := by
  obtain ⟨⟨hx, hb, hml, hown, hts⟩, hr, hlk, hK⟩ := id X
  replace hf : (some (v0)) = some t := hf
  obtain rfl := so_i hf
  exact mr_vw X hH rfl dX5_order_219
def f5_order_202 (v6 : Nat → Int32) (v0 : Nat → Int32) : Option ((Nat → Int32)) := Option.bind (f5_sign_0 v6 47 v0) (fun t1 => Option.bind (f5_digit_0 v6 0 9 t1) (fun t2 => f5_order_219 v6 (upd t2.2 15 t2.1)))
set_option maxRecDepth 100000 in
set_option maxHeartbeats 4000000 in
theorem w5_order_202 {p : Program} {l : Launch} {e : Env} {s : State} {m : MethodId} {args : Array Value} {below : List Frame} {meth : Method} {c : Code} {D : va_G} {cI cZ : ClassId} {ad : Nat → Nat} {v0 v1 v2 v3 v4 v5 v6 v7 v8 : Nat → Int32} (X : mX D cI cZ p s m args meth c cX5_order 1 none) (hI : mInj ad) {t : (Nat → Int32)}  {H : Heap} {locs : List Loc} (hH : mH D cI cZ ad v0 v1 v2 v3 v4 v5 v6 v7 v8 s H locs) {ls : Array Slot} (hl : lv_has ls 1 [(0, .ref (ad 0))]) (hf : f5_order_202 v6 v0 = some t) : W p l e rm5_order s m args below meth c H locs 0 0 (MQ below (va_Qv (fun (_ : Unit) => True) (fun _ t9 => mB D cI cZ ad t v1 v2 v3 v4 v5 v6 v7 v8 t9) (mA ad s.heap.size)) args s 0 0 (mA ad s.heap.size)) (F0 m 202 ls []) := by
  obtain ⟨⟨hx, hb, hml, hown, hts⟩, hr, hlk, hK⟩ := id X
  replace hf : (Option.bind (f5_sign_0 v6 47 v0) (fun t1 => Option.bind (f5_digit_0 v6 0 9 t1) (fun t2 => f5_order_219 v6 (upd t2.2 15 t2.1)))) = some t := hf
  refine lv_aload_n hx hb dX5_order_202 rfl (lv_at hl 0 rfl) ?_
  refine lv_bipush (v := 47) hx hb dX5_order_203 (by decide) ?_
  obtain ⟨t1, ht1, hf⟩ := bd_o hf
  refine k5_sign X hI hH hl.1 qX5_166 ⟨Nat.le_of_ble_eq_true rfl, Nat.le_of_ble_eq_true rfl⟩ ht1 (Nat.le_of_ble_eq_true rfl) dX5_order_205 ⟨Nat.zero_le _, Nat.zero_le _⟩ (fun H locs hH => ?_)
  refine lv_aload_n hx hb dX5_order_208 rfl (lv_at hl 0 rfl) ?_
  refine lv_aload_n hx hb dX5_order_209 rfl (lv_at hl 0 rfl) ?_
  refine lv_iconst (v := 0) hx hb dX5_order_210 (by decide) ?_
  refine lv_bipush (v := 9) hx hb dX5_order_211 (by decide) ?_
  obtain ⟨t2, ht2, hf⟩ := bd_o hf
  refine k5_digit X hI hH hl.1 qX5_154 ⟨Nat.le_of_ble_eq_true rfl, Nat.le_of_ble_eq_true rfl⟩ ht2 (Nat.le_of_ble_eq_true rfl) dX5_order_213 ⟨Nat.zero_le _, Nat.zero_le _⟩ (fun H locs hH => ?_)
  refine mr_put X hI hH 15 (by decide) gfX5_169 rfl rfl dX5_order_216 (fun H locs hH => ?_)
  exact w5_order_219 X hI hH (lv_sub hl [] rfl) hf
def f5_order_153 (v6 : Nat → Int32) (y0 : Int32) (v0 : Nat → Int32) : Option ((Nat → Int32)) := if ((upd v0 14 y0) 13) = 108 then (Option.bind (f5_sign_0 v6 43 (upd v0 14 y0)) (fun t4 => Option.bind (f5_number_0 v6 20 t4) (fun t5 => f5_order_219 v6 (upd t5.2 15 t5.1)))) else (if ((upd v0 14 y0) 13) = 114 then (f5_order_202 v6 (upd v0 14 y0)) else (if ((upd v0 14 y0) 13) = 98 then (f5_order_202 v6 (upd v0 14 y0)) else (f5_order_219 v6 (upd v0 14 y0))))
set_option maxRecDepth 100000 in
set_option maxHeartbeats 4000000 in
theorem w5_order_153 {p : Program} {l : Launch} {e : Env} {s : State} {m : MethodId} {args : Array Value} {below : List Frame} {meth : Method} {c : Code} {D : va_G} {cI cZ : ClassId} {ad : Nat → Nat} {v0 v1 v2 v3 v4 v5 v6 v7 v8 : Nat → Int32} (X : mX D cI cZ p s m args meth c cX5_order 1 none) (hI : mInj ad) {y0 : Int32} {t : (Nat → Int32)}  {H : Heap} {locs : List Loc} (hH : mH D cI cZ ad v0 v1 v2 v3 v4 v5 v6 v7 v8 s H locs) {ls : Array Slot} (hl : lv_has ls 1 [(0, .ref (ad 0))]) (hf : f5_order_153 v6 y0 v0 = some t) : W p l e rm5_order s m args below meth c H locs 0 0 (MQ below (va_Qv (fun (_ : Unit) => True) (fun _ t9 => mB D cI cZ ad t v1 v2 v3 v4 v5 v6 v7 v8 t9) (mA ad s.heap.size)) args s 0 0 (mA ad s.heap.size)) (F0 m 153 ls [.int y0, .ref (ad 0)]) := by
  obtain ⟨⟨hx, hb, hml, hown, hts⟩, hr, hlk, hK⟩ := id X
  replace hf : (if ((upd v0 14 y0) 13) = 108 then (Option.bind (f5_sign_0 v6 43 (upd v0 14 y0)) (fun t4 => Option.bind (f5_number_0 v6 20 t4) (fun t5 => f5_order_219 v6 (upd t5.2 15 t5.1)))) else (if ((upd v0 14 y0) 13) = 114 then (f5_order_202 v6 (upd v0 14 y0)) else (if ((upd v0 14 y0) 13) = 98 then (f5_order_202 v6 (upd v0 14 y0)) else (f5_order_219 v6 (upd v0 14 y0))))) = some t := hf
  refine mr_put X hI hH 14 (by decide) gfX5_163 rfl rfl dX5_order_153 (fun H locs hH => ?_)
  refine lv_aload_n hx hb dX5_order_156 rfl (lv_at hl 0 rfl) ?_
  refine mr_get X hH.1 (k := 13) (v := .int ((upd v0 14 y0) 13)) (by decide) gfX5_157 rfl dX5_order_157 ?_
  refine lv_bipush (v := 108) hx hb dX5_order_160 (by decide) ?_
  refine lv_icmp_ne (tgt := 184) hx hb dX5_order_162 (by decide) (fun c1 => ?_) (fun c1 => ?_)
  · have hf := it_f c1 hf
    refine lv_aload_n hx hb dX5_order_184 rfl (lv_at hl 0 rfl) ?_
    refine mr_get X hH.1 (k := 13) (v := .int ((upd v0 14 y0) 13)) (by decide) gfX5_157 rfl dX5_order_185 ?_
    refine lv_bipush (v := 114) hx hb dX5_order_188 (by decide) ?_
    refine lv_icmp_eq (tgt := 202) hx hb dX5_order_190 (by decide) (fun c2 => ?_) (fun c2 => ?_)
    · have hf := it_t c2 hf
      exact w5_order_202 X hI hH (lv_sub hl [0] rfl) hf
    · have hf := it_f c2 hf
      refine lv_aload_n hx hb dX5_order_193 rfl (lv_at hl 0 rfl) ?_
      refine mr_get X hH.1 (k := 13) (v := .int ((upd v0 14 y0) 13)) (by decide) gfX5_157 rfl dX5_order_194 ?_
      refine lv_bipush (v := 98) hx hb dX5_order_197 (by decide) ?_
      refine lv_icmp_ne (tgt := 219) hx hb dX5_order_199 (by decide) (fun c3 => ?_) (fun c3 => ?_)
      · have hf := it_f c3 hf
        exact w5_order_219 X hI hH (lv_sub hl [] rfl) hf
      · have hf := it_t c3 hf
        exact w5_order_202 X hI hH (lv_sub hl [0] rfl) hf
  · have hf := it_t c1 hf
    refine lv_aload_n hx hb dX5_order_165 rfl (lv_at hl 0 rfl) ?_
    refine lv_bipush (v := 43) hx hb dX5_order_166 (by decide) ?_
    obtain ⟨t4, ht4, hf⟩ := bd_o hf
    refine k5_sign X hI hH hl.1 qX5_166 ⟨Nat.le_of_ble_eq_true rfl, Nat.le_of_ble_eq_true rfl⟩ ht4 (Nat.le_of_ble_eq_true rfl) dX5_order_168 ⟨Nat.zero_le _, Nat.zero_le _⟩ (fun H locs hH => ?_)
    refine lv_aload_n hx hb dX5_order_171 rfl (lv_at hl 0 rfl) ?_
    refine lv_aload_n hx hb dX5_order_172 rfl (lv_at hl 0 rfl) ?_
    refine lv_bipush (v := 20) hx hb dX5_order_173 (by decide) ?_
    obtain ⟨t5, ht5, hf⟩ := bd_o hf
    refine k5_number X hI hH hl.1 qX5_160 ⟨Nat.le_of_ble_eq_true rfl, Nat.le_of_ble_eq_true rfl⟩ ht5 (Nat.le_of_ble_eq_true rfl) dX5_order_175 ⟨Nat.zero_le _, Nat.zero_le _⟩ (fun H locs hH => ?_)
    refine mr_put X hI hH 15 (by decide) gfX5_169 rfl rfl dX5_order_178 (fun H locs hH => ?_)
    refine lv_goto (tgt := 219) hx hb dX5_order_181 (by decide) ?_
    exact w5_order_219 X hI hH (lv_sub hl [] rfl) hf
def f5_order_126 (v6 : Nat → Int32) (v0 : Nat → Int32) : Option ((Nat → Int32)) := some (v0)
set_option maxRecDepth 100000 in
set_option maxHeartbeats 4000000 in
theorem w5_order_126 {p : Program} {l : Launch} {e : Env} {s : State} {m : MethodId} {args : Array Value} {below : List Frame} {meth : Method} {c : Code} {D : va_G} {cI cZ : ClassId} {ad : Nat → Nat} {v0 v1 v2 v3 v4 v5 v6 v7 v8 : Nat → Int32} (X : mX D cI cZ p s m args meth c cX5_order 1 none) (hI : mInj ad) {t : (Nat → Int32)}  {H : Heap} {locs : List Loc} (hH : mH D cI cZ ad v0 v1 v2 v3 v4 v5 v6 v7 v8 s H locs) {ls : Array Slot} (hl : lv_has ls 1 []) (hf : f5_order_126 v6 v0 = some t) : W p l e rm5_order s m args below meth c H locs 0 0 (MQ below (va_Qv (fun (_ : Unit) => True) (fun _ t9 => mB D cI cZ ad t v1 v2 v3 v4 v5 v6 v7 v8 t9) (mA ad s.heap.size)) args s 0 0 (mA ad s.heap.size)) (F0 m 126 ls []) := by
  obtain ⟨⟨hx, hb, hml, hown, hts⟩, hr, hlk, hK⟩ := id X
  replace hf : (some (v0)) = some t := hf
  obtain rfl := so_i hf
  exact mr_vw X hH rfl dX5_order_126
def f5_order_106 (v6 : Nat → Int32) (y0 : Int32) (y1 : Int32) (v0 : Nat → Int32) : Option ((Nat → Int32)) := if ((upd v0 11 (y1 + y0)) 12) = 0 then (if ((upd v0 11 (y1 + y0)) 13) = 110 then (f5_order_126 v6 (upd v0 11 (y1 + y0))) else (if ((upd v0 11 (y1 + y0)) 13) = 116 then (Option.bind (f5_number_0 v6 60 (upd v0 11 (y1 + y0))) (fun t5 => f5_order_153 v6 t5.1 t5.2)) else (Option.bind (f5_digit_0 v6 0 7 (upd v0 11 (y1 + y0))) (fun t4 => f5_order_153 v6 t4.1 t4.2)))) else (f5_order_126 v6 (upd v0 11 (y1 + y0)))
set_option maxRecDepth 100000 in
set_option maxHeartbeats 4000000 in
theorem w5_order_106 {p : Program} {l : Launch} {e : Env} {s : State} {m : MethodId} {args : Array Value} {below : List Frame} {meth : Method} {c : Code} {D : va_G} {cI cZ : ClassId} {ad : Nat → Nat} {v0 v1 v2 v3 v4 v5 v6 v7 v8 : Nat → Int32} (X : mX D cI cZ p s m args meth c cX5_order 1 none) (hI : mInj ad) {y0 : Int32} {y1 : Int32} {t : (Nat → Int32)}  {H : Heap} {locs : List Loc} (hH : mH D cI cZ ad v0 v1 v2 v3 v4 v5 v6 v7 v8 s H locs) {ls : Array Slot} (hl : lv_has ls 1 [(0, .ref (ad 0))]) (hf : f5_order_106 v6 y0 y1 v0 = some t) : W p l e rm5_order s m args below meth c H locs 0 0 (MQ below (va_Qv (fun (_ : Unit) => True) (fun _ t9 => mB D cI cZ ad t v1 v2 v3 v4 v5 v6 v7 v8 t9) (mA ad s.heap.size)) args s 0 0 (mA ad s.heap.size)) (F0 m 106 ls [.int y0, .int y1, .ref (ad 0)]) := by
  obtain ⟨⟨hx, hb, hml, hown, hts⟩, hr, hlk, hK⟩ := id X
  replace hf : (if ((upd v0 11 (y1 + y0)) 12) = 0 then (if ((upd v0 11 (y1 + y0)) 13) = 110 then (f5_order_126 v6 (upd v0 11 (y1 + y0))) else (if ((upd v0 11 (y1 + y0)) 13) = 116 then (Option.bind (f5_number_0 v6 60 (upd v0 11 (y1 + y0))) (fun t5 => f5_order_153 v6 t5.1 t5.2)) else (Option.bind (f5_digit_0 v6 0 7 (upd v0 11 (y1 + y0))) (fun t4 => f5_order_153 v6 t4.1 t4.2)))) else (f5_order_126 v6 (upd v0 11 (y1 + y0)))) = some t := hf
  refine lv_iadd hx hb dX5_order_106 ?_
  refine mr_put X hI hH 11 (by decide) gfX5_144 rfl rfl dX5_order_107 (fun H locs hH => ?_)
  refine lv_aload_n hx hb dX5_order_110 rfl (lv_at hl 0 rfl) ?_
  refine mr_get X hH.1 (k := 12) (v := .int ((upd v0 11 (y1 + y0)) 12)) (by decide) gfX5_147 rfl dX5_order_111 ?_
  refine lv_if_ne (tgt := 126) hx hb dX5_order_114 (by decide) (fun c1 => ?_) (fun c1 => ?_)
  · have hf := it_f c1 hf
    exact w5_order_126 X hI hH (lv_sub hl [] rfl) hf
  · have hf := it_t c1 hf
    refine lv_aload_n hx hb dX5_order_117 rfl (lv_at hl 0 rfl) ?_
    refine mr_get X hH.1 (k := 13) (v := .int ((upd v0 11 (y1 + y0)) 13)) (by decide) gfX5_157 rfl dX5_order_118 ?_
    refine lv_bipush (v := 110) hx hb dX5_order_121 (by decide) ?_
    refine lv_icmp_ne (tgt := 127) hx hb dX5_order_123 (by decide) (fun c2 => ?_) (fun c2 => ?_)
    · have hf := it_f c2 hf
      refine lv_aload_n hx hb dX5_order_127 rfl (lv_at hl 0 rfl) ?_
      refine lv_aload_n hx hb dX5_order_128 rfl (lv_at hl 0 rfl) ?_
      refine mr_get X hH.1 (k := 13) (v := .int ((upd v0 11 (y1 + y0)) 13)) (by decide) gfX5_157 rfl dX5_order_129 ?_
      refine lv_bipush (v := 116) hx hb dX5_order_132 (by decide) ?_
      refine lv_icmp_ne (tgt := 146) hx hb dX5_order_134 (by decide) (fun c3 => ?_) (fun c3 => ?_)
      · have hf := it_f c3 hf
        refine lv_aload_n hx hb dX5_order_146 rfl (lv_at hl 0 rfl) ?_
        refine lv_iconst (v := 0) hx hb dX5_order_147 (by decide) ?_
        refine lv_bipush (v := 7) hx hb dX5_order_148 (by decide) ?_
        obtain ⟨t4, ht4, hf⟩ := bd_o hf
        refine k5_digit X hI hH hl.1 qX5_154 ⟨Nat.le_of_ble_eq_true rfl, Nat.le_of_ble_eq_true rfl⟩ ht4 (Nat.le_of_ble_eq_true rfl) dX5_order_150 ⟨Nat.zero_le _, Nat.zero_le _⟩ (fun H locs hH => ?_)
        exact w5_order_153 X hI hH (lv_sub hl [0] rfl) hf
      · have hf := it_t c3 hf
        refine lv_aload_n hx hb dX5_order_137 rfl (lv_at hl 0 rfl) ?_
        refine lv_bipush (v := 60) hx hb dX5_order_138 (by decide) ?_
        obtain ⟨t5, ht5, hf⟩ := bd_o hf
        refine k5_number X hI hH hl.1 qX5_160 ⟨Nat.le_of_ble_eq_true rfl, Nat.le_of_ble_eq_true rfl⟩ ht5 (Nat.le_of_ble_eq_true rfl) dX5_order_140 ⟨Nat.zero_le _, Nat.zero_le _⟩ (fun H locs hH => ?_)
        refine lv_goto (tgt := 153) hx hb dX5_order_143 (by decide) ?_
        exact w5_order_153 X hI hH (lv_sub hl [0] rfl) hf
    · have hf := it_t c2 hf
      exact w5_order_126 X hI hH (lv_sub hl [] rfl) hf
def f5_order_86 (v6 : Nat → Int32) (y0 : Int32) (v0 : Nat → Int32) : Option ((Nat → Int32)) := gz y0 (if ((upd v0 12 y0) 12) = 0 then (f5_order_106 v6 1 ((upd v0 12 y0) 11) (upd v0 12 y0)) else (f5_order_106 v6 0 ((upd v0 12 y0) 11) (upd v0 12 y0)))
set_option maxRecDepth 100000 in
set_option maxHeartbeats 4000000 in
theorem w5_order_86 {p : Program} {l : Launch} {e : Env} {s : State} {m : MethodId} {args : Array Value} {below : List Frame} {meth : Method} {c : Code} {D : va_G} {cI cZ : ClassId} {ad : Nat → Nat} {v0 v1 v2 v3 v4 v5 v6 v7 v8 : Nat → Int32} (X : mX D cI cZ p s m args meth c cX5_order 1 none) (hI : mInj ad) {y0 : Int32} {t : (Nat → Int32)}  {H : Heap} {locs : List Loc} (hH : mH D cI cZ ad v0 v1 v2 v3 v4 v5 v6 v7 v8 s H locs) {ls : Array Slot} (hl : lv_has ls 1 [(0, .ref (ad 0))]) (hf : f5_order_86 v6 y0 v0 = some t) : W p l e rm5_order s m args below meth c H locs 0 0 (MQ below (va_Qv (fun (_ : Unit) => True) (fun _ t9 => mB D cI cZ ad t v1 v2 v3 v4 v5 v6 v7 v8 t9) (mA ad s.heap.size)) args s 0 0 (mA ad s.heap.size)) (F0 m 86 ls [.int y0, .ref (ad 0)]) := by
  obtain ⟨⟨hx, hb, hml, hown, hts⟩, hr, hlk, hK⟩ := id X
  replace hf : (gz y0 (if ((upd v0 12 y0) 12) = 0 then (f5_order_106 v6 1 ((upd v0 12 y0) 11) (upd v0 12 y0)) else (f5_order_106 v6 0 ((upd v0 12 y0) 11) (upd v0 12 y0)))) = some t := hf
  obtain ⟨hz1, hf⟩ := gz_o hf
  refine mr_putz X hI hH 12 (by decide) gfX5_147 rfl rfl hz1 dX5_order_86 (fun H locs hH => ?_)
  refine lv_aload_n hx hb dX5_order_89 rfl (lv_at hl 0 rfl) ?_
  refine lv_dup hx hb dX5_order_90 rfl ?_
  refine mr_get X hH.1 (k := 11) (v := .int ((upd v0 12 y0) 11)) (by decide) gfX5_144 rfl dX5_order_91 ?_
  refine lv_aload_n hx hb dX5_order_94 rfl (lv_at hl 0 rfl) ?_
  refine mr_get X hH.1 (k := 12) (v := .int ((upd v0 12 y0) 12)) (by decide) gfX5_147 rfl dX5_order_95 ?_
  refine lv_if_eq (tgt := 105) hx hb dX5_order_98 (by decide) (fun c2 => ?_) (fun c2 => ?_)
  · have hf := it_t c2 hf
    refine lv_iconst (v := 1) hx hb dX5_order_105 (by decide) ?_
    exact w5_order_106 X hI hH (lv_sub hl [0] rfl) hf
  · have hf := it_f c2 hf
    refine lv_iconst (v := 0) hx hb dX5_order_101 (by decide) ?_
    refine lv_goto (tgt := 106) hx hb dX5_order_102 (by decide) ?_
    exact w5_order_106 X hI hH (lv_sub hl [0] rfl) hf
def f5_order_85 (v6 : Nat → Int32) (v0 : Nat → Int32) : Option ((Nat → Int32)) := f5_order_86 v6 0 v0
set_option maxRecDepth 100000 in
set_option maxHeartbeats 4000000 in
theorem w5_order_85 {p : Program} {l : Launch} {e : Env} {s : State} {m : MethodId} {args : Array Value} {below : List Frame} {meth : Method} {c : Code} {D : va_G} {cI cZ : ClassId} {ad : Nat → Nat} {v0 v1 v2 v3 v4 v5 v6 v7 v8 : Nat → Int32} (X : mX D cI cZ p s m args meth c cX5_order 1 none) (hI : mInj ad) {t : (Nat → Int32)}  {H : Heap} {locs : List Loc} (hH : mH D cI cZ ad v0 v1 v2 v3 v4 v5 v6 v7 v8 s H locs) {ls : Array Slot} (hl : lv_has ls 1 [(0, .ref (ad 0))]) (hf : f5_order_85 v6 v0 = some t) : W p l e rm5_order s m args below meth c H locs 0 0 (MQ below (va_Qv (fun (_ : Unit) => True) (fun _ t9 => mB D cI cZ ad t v1 v2 v3 v4 v5 v6 v7 v8 t9) (mA ad s.heap.size)) args s 0 0 (mA ad s.heap.size)) (F0 m 85 ls [.ref (ad 0)]) := by
  obtain ⟨⟨hx, hb, hml, hown, hts⟩, hr, hlk, hK⟩ := id X
  replace hf : (f5_order_86 v6 0 v0) = some t := hf
  refine lv_iconst (v := 0) hx hb dX5_order_85 (by decide) ?_
  exact w5_order_86 X hI hH (lv_sub hl [0] rfl) hf
def f5_order_81 (v6 : Nat → Int32) (v0 : Nat → Int32) : Option ((Nat → Int32)) := f5_order_86 v6 1 v0
set_option maxRecDepth 100000 in
set_option maxHeartbeats 4000000 in
theorem w5_order_81 {p : Program} {l : Launch} {e : Env} {s : State} {m : MethodId} {args : Array Value} {below : List Frame} {meth : Method} {c : Code} {D : va_G} {cI cZ : ClassId} {ad : Nat → Nat} {v0 v1 v2 v3 v4 v5 v6 v7 v8 : Nat → Int32} (X : mX D cI cZ p s m args meth c cX5_order 1 none) (hI : mInj ad) {t : (Nat → Int32)}  {H : Heap} {locs : List Loc} (hH : mH D cI cZ ad v0 v1 v2 v3 v4 v5 v6 v7 v8 s H locs) {ls : Array Slot} (hl : lv_has ls 1 [(0, .ref (ad 0))]) (hf : f5_order_81 v6 v0 = some t) : W p l e rm5_order s m args below meth c H locs 0 0 (MQ below (va_Qv (fun (_ : Unit) => True) (fun _ t9 => mB D cI cZ ad t v1 v2 v3 v4 v5 v6 v7 v8 t9) (mA ad s.heap.size)) args s 0 0 (mA ad s.heap.size)) (F0 m 81 ls [.ref (ad 0)]) := by
  obtain ⟨⟨hx, hb, hml, hown, hts⟩, hr, hlk, hK⟩ := id X
  replace hf : (f5_order_86 v6 1 v0) = some t := hf
  refine lv_iconst (v := 1) hx hb dX5_order_81 (by decide) ?_
  refine lv_goto (tgt := 86) hx hb dX5_order_82 (by decide) ?_
  exact w5_order_86 X hI hH (lv_sub hl [0] rfl) hf
def f5_order_16 (v6 : Nat → Int32) (y0 : Int32) (v0 : Nat → Int32) : Option ((Nat → Int32)) := if ((upd v0 13 y0) 12) = 0 then (if ((upd v0 13 y0) 13) = 110 then (f5_order_85 v6 (upd v0 13 y0)) else (if ((upd v0 13 y0) 13) = 108 then (f5_order_85 v6 (upd v0 13 y0)) else (if ((upd v0 13 y0) 13) = 114 then (f5_order_85 v6 (upd v0 13 y0)) else (if ((upd v0 13 y0) 13) = 98 then (f5_order_85 v6 (upd v0 13 y0)) else (if ((upd v0 13 y0) 13) = 109 then (f5_order_85 v6 (upd v0 13 y0)) else (if ((upd v0 13 y0) 13) = 116 then (f5_order_85 v6 (upd v0 13 y0)) else (f5_order_81 v6 (upd v0 13 y0)))))))) else (f5_order_81 v6 (upd v0 13 y0))
set_option maxRecDepth 100000 in
set_option maxHeartbeats 4000000 in
theorem w5_order_16 {p : Program} {l : Launch} {e : Env} {s : State} {m : MethodId} {args : Array Value} {below : List Frame} {meth : Method} {c : Code} {D : va_G} {cI cZ : ClassId} {ad : Nat → Nat} {v0 v1 v2 v3 v4 v5 v6 v7 v8 : Nat → Int32} (X : mX D cI cZ p s m args meth c cX5_order 1 none) (hI : mInj ad) {y0 : Int32} {t : (Nat → Int32)}  {H : Heap} {locs : List Loc} (hH : mH D cI cZ ad v0 v1 v2 v3 v4 v5 v6 v7 v8 s H locs) {ls : Array Slot} (hl : lv_has ls 1 [(0, .ref (ad 0))]) (hf : f5_order_16 v6 y0 v0 = some t) : W p l e rm5_order s m args below meth c H locs 0 0 (MQ below (va_Qv (fun (_ : Unit) => True) (fun _ t9 => mB D cI cZ ad t v1 v2 v3 v4 v5 v6 v7 v8 t9) (mA ad s.heap.size)) args s 0 0 (mA ad s.heap.size)) (F0 m 16 ls [.int y0, .ref (ad 0)]) := by
  obtain ⟨⟨hx, hb, hml, hown, hts⟩, hr, hlk, hK⟩ := id X
  replace hf : (if ((upd v0 13 y0) 12) = 0 then (if ((upd v0 13 y0) 13) = 110 then (f5_order_85 v6 (upd v0 13 y0)) else (if ((upd v0 13 y0) 13) = 108 then (f5_order_85 v6 (upd v0 13 y0)) else (if ((upd v0 13 y0) 13) = 114 then (f5_order_85 v6 (upd v0 13 y0)) else (if ((upd v0 13 y0) 13) = 98 then (f5_order_85 v6 (upd v0 13 y0)) else (if ((upd v0 13 y0) 13) = 109 then (f5_order_85 v6 (upd v0 13 y0)) else (if ((upd v0 13 y0) 13) = 116 then (f5_order_85 v6 (upd v0 13 y0)) else (f5_order_81 v6 (upd v0 13 y0)))))))) else (f5_order_81 v6 (upd v0 13 y0))) = some t := hf
  refine mr_put X hI hH 13 (by decide) gfX5_157 rfl rfl dX5_order_16 (fun H locs hH => ?_)
  refine lv_aload_n hx hb dX5_order_19 rfl (lv_at hl 0 rfl) ?_
  refine lv_aload_n hx hb dX5_order_20 rfl (lv_at hl 0 rfl) ?_
  refine mr_get X hH.1 (k := 12) (v := .int ((upd v0 13 y0) 12)) (by decide) gfX5_147 rfl dX5_order_21 ?_
  refine lv_if_ne (tgt := 81) hx hb dX5_order_24 (by decide) (fun c1 => ?_) (fun c1 => ?_)
  · have hf := it_f c1 hf
    exact w5_order_81 X hI hH (lv_sub hl [0] rfl) hf
  · have hf := it_t c1 hf
    refine lv_aload_n hx hb dX5_order_27 rfl (lv_at hl 0 rfl) ?_
    refine mr_get X hH.1 (k := 13) (v := .int ((upd v0 13 y0) 13)) (by decide) gfX5_157 rfl dX5_order_28 ?_
    refine lv_bipush (v := 110) hx hb dX5_order_31 (by decide) ?_
    refine lv_icmp_eq (tgt := 85) hx hb dX5_order_33 (by decide) (fun c2 => ?_) (fun c2 => ?_)
    · have hf := it_t c2 hf
      exact w5_order_85 X hI hH (lv_sub hl [0] rfl) hf
    · have hf := it_f c2 hf
      refine lv_aload_n hx hb dX5_order_36 rfl (lv_at hl 0 rfl) ?_
      refine mr_get X hH.1 (k := 13) (v := .int ((upd v0 13 y0) 13)) (by decide) gfX5_157 rfl dX5_order_37 ?_
      refine lv_bipush (v := 108) hx hb dX5_order_40 (by decide) ?_
      refine lv_icmp_eq (tgt := 85) hx hb dX5_order_42 (by decide) (fun c3 => ?_) (fun c3 => ?_)
      · have hf := it_t c3 hf
        exact w5_order_85 X hI hH (lv_sub hl [0] rfl) hf
      · have hf := it_f c3 hf
        refine lv_aload_n hx hb dX5_order_45 rfl (lv_at hl 0 rfl) ?_
        refine mr_get X hH.1 (k := 13) (v := .int ((upd v0 13 y0) 13)) (by decide) gfX5_157 rfl dX5_order_46 ?_
        refine lv_bipush (v := 114) hx hb dX5_order_49 (by decide) ?_
        refine lv_icmp_eq (tgt := 85) hx hb dX5_order_51 (by decide) (fun c4 => ?_) (fun c4 => ?_)
        · have hf := it_t c4 hf
          exact w5_order_85 X hI hH (lv_sub hl [0] rfl) hf
        · have hf := it_f c4 hf
          refine lv_aload_n hx hb dX5_order_54 rfl (lv_at hl 0 rfl) ?_
          refine mr_get X hH.1 (k := 13) (v := .int ((upd v0 13 y0) 13)) (by decide) gfX5_157 rfl dX5_order_55 ?_
          refine lv_bipush (v := 98) hx hb dX5_order_58 (by decide) ?_
          refine lv_icmp_eq (tgt := 85) hx hb dX5_order_60 (by decide) (fun c5 => ?_) (fun c5 => ?_)
          · have hf := it_t c5 hf
            exact w5_order_85 X hI hH (lv_sub hl [0] rfl) hf
          · have hf := it_f c5 hf
            refine lv_aload_n hx hb dX5_order_63 rfl (lv_at hl 0 rfl) ?_
            refine mr_get X hH.1 (k := 13) (v := .int ((upd v0 13 y0) 13)) (by decide) gfX5_157 rfl dX5_order_64 ?_
            refine lv_bipush (v := 109) hx hb dX5_order_67 (by decide) ?_
            refine lv_icmp_eq (tgt := 85) hx hb dX5_order_69 (by decide) (fun c6 => ?_) (fun c6 => ?_)
            · have hf := it_t c6 hf
              exact w5_order_85 X hI hH (lv_sub hl [0] rfl) hf
            · have hf := it_f c6 hf
              refine lv_aload_n hx hb dX5_order_72 rfl (lv_at hl 0 rfl) ?_
              refine mr_get X hH.1 (k := 13) (v := .int ((upd v0 13 y0) 13)) (by decide) gfX5_157 rfl dX5_order_73 ?_
              refine lv_bipush (v := 116) hx hb dX5_order_76 (by decide) ?_
              refine lv_icmp_eq (tgt := 85) hx hb dX5_order_78 (by decide) (fun c7 => ?_) (fun c7 => ?_)
              · have hf := it_t c7 hf
                exact w5_order_85 X hI hH (lv_sub hl [0] rfl) hf
              · have hf := it_f c7 hf
                exact w5_order_81 X hI hH (lv_sub hl [0] rfl) hf
def f5_order_0 (v6 : Nat → Int32) (v0 : Nat → Int32) : Option ((Nat → Int32)) := if (v0 12) = 0 then (Option.bind (f5_next_0 v0 v6) (fun t2 => f5_order_16 v6 t2 v0)) else (f5_order_16 v6 0 v0)
set_option maxRecDepth 100000 in
set_option maxHeartbeats 4000000 in
theorem w5_order_0 {p : Program} {l : Launch} {e : Env} {s : State} {m : MethodId} {args : Array Value} {below : List Frame} {meth : Method} {c : Code} {D : va_G} {cI cZ : ClassId} {ad : Nat → Nat} {v0 v1 v2 v3 v4 v5 v6 v7 v8 : Nat → Int32} (X : mX D cI cZ p s m args meth c cX5_order 1 none) (hI : mInj ad) {t : (Nat → Int32)}  {H : Heap} {locs : List Loc} (hH : mH D cI cZ ad v0 v1 v2 v3 v4 v5 v6 v7 v8 s H locs) {ls : Array Slot} (hl : lv_has ls 1 [(0, .ref (ad 0))]) (hf : f5_order_0 v6 v0 = some t) : W p l e rm5_order s m args below meth c H locs 0 0 (MQ below (va_Qv (fun (_ : Unit) => True) (fun _ t9 => mB D cI cZ ad t v1 v2 v3 v4 v5 v6 v7 v8 t9) (mA ad s.heap.size)) args s 0 0 (mA ad s.heap.size)) (F0 m 0 ls []) := by
  obtain ⟨⟨hx, hb, hml, hown, hts⟩, hr, hlk, hK⟩ := id X
  replace hf : (if (v0 12) = 0 then (Option.bind (f5_next_0 v0 v6) (fun t2 => f5_order_16 v6 t2 v0)) else (f5_order_16 v6 0 v0)) = some t := hf
  refine lv_aload_n hx hb dX5_order_0 rfl (lv_at hl 0 rfl) ?_
  refine lv_aload_n hx hb dX5_order_1 rfl (lv_at hl 0 rfl) ?_
  refine mr_get X hH.1 (k := 12) (v := .int (v0 12)) (by decide) gfX5_147 rfl dX5_order_2 ?_
  refine lv_if_eq (tgt := 12) hx hb dX5_order_5 (by decide) (fun c1 => ?_) (fun c1 => ?_)
  · have hf := it_t c1 hf
    refine lv_aload_n hx hb dX5_order_12 rfl (lv_at hl 0 rfl) ?_
    obtain ⟨t2, ht2, hf⟩ := bd_o hf
    refine k5_next X hH.1 hl.1 qX5_151 ⟨Nat.le_of_ble_eq_true rfl, Nat.le_of_ble_eq_true rfl⟩ ht2 (Nat.le_of_ble_eq_true rfl) dX5_order_13 ⟨Nat.zero_le _, Nat.zero_le _⟩ ?_
    exact w5_order_16 X hI hH (lv_sub hl [0] rfl) hf
  · have hf := it_f c1 hf
    refine lv_iconst (v := 0) hx hb dX5_order_8 (by decide) ?_
    refine lv_goto (tgt := 16) hx hb dX5_order_9 (by decide) ?_
    exact w5_order_16 X hI hH (lv_sub hl [0] rfl) hf
set_option maxRecDepth 100000 in
set_option maxHeartbeats 4000000 in
theorem c5_order (l : Launch) {D : va_G} {cI cZ : ClassId} {ad : Nat → Nat} {v0 v1 v2 v3 v4 v5 v6 v7 v8 : Nat → Int32} (hI : mInj ad) (sz : Nat) {t : (Nat → Int32)} (hf : f5_order_0 v6 v0 = some t) : Met l yX5_order uX5_order rm5_order (va_Pc [.ref (ad 0)] (fun U => U.heap.size = sz ∧ mB D cI cZ ad v0 v1 v2 v3 v4 v5 v6 v7 v8 U)) (va_Qv (fun (_ : Unit) => True) (fun _ t9 => mB D cI cZ ad t v1 v2 v3 v4 v5 v6 v7 v8 t9) (mA ad sz)) 0 0 (mA ad sz) := by
  refine Met.ofW (cc := cX5_order) (maxL := 1) (ret := none) (by decide) rfl ?_
  intro p e s m args below meth c s₁ B hml hv
  obtain ⟨rfl, hsz, hP, hK⟩ := hv
  subst hsz
  have X : mX D cI cZ p s m ([.ref (ad 0)] : List Value).toArray meth c cX5_order 1 none := ⟨⟨B.exec, B.bytes, hml, findClass_of_methodNamed B.named, fun w h => atoms_spec (ws := uX5_order) B.pre w (List.mem_cons_of_mem _ h)⟩, B.returns, B.notSynchronized, hK⟩
  have hl := lv_entry ([.ref (ad 0)]) (n := 1) (Nat.le_of_ble_eq_true rfl)
  rw [lg_entry_eq]
  generalize (lg_sl ([.ref (ad 0)]) ++ List.replicate (1 - (lg_sl ([.ref (ad 0)])).length) Slot.unset).toArray = ls at hl ⊢
  have hl : lv_has ls 1 [(0, .ref (ad 0))] := hl
  exact w5_order_0 X hI ⟨hP, va_S.rf⟩ (lv_sub hl [0] rfl) hf
set_option maxRecDepth 100000 in
set_option maxHeartbeats 4000000 in
theorem k5_order {p : Program} {l : Launch} {e : Env} {R : Room} {s : State} {m : MethodId} {args : Array Value} {below : List Frame} {meth : Method} {c : Code} {cc : ByteArray} {nL : Nat} {ret : Option FieldType} {D : va_G} {cI cZ : ClassId} {ad : Nat → Nat} {v0 v1 v2 v3 v4 v5 v6 v7 v8 : Nat → Int32} {H : Heap} {locs : List Loc} {cells slots : Nat} {Q : State → Prop} {pc : Nat} {ls : Array Slot} {rest : List Value} (X : mX D cI cZ p s m args meth c cc nL ret) (hI : mInj ad) (hH : mH D cI cZ ad v0 v1 v2 v3 v4 v5 v6 v7 v8 s H locs) (hls : ls.size = nL) {index : Nat} (hG : GoodIn gw (wsV RX5 index RX5 yX5_order uX5_order)) (hR : rm5_order.frames + 1 ≤ R.frames ∧ 8 + (1 + 11) + rm5_order.locals ≤ R.locals) {t : (Nat → Int32)} (hf : f5_order_0 v6 v0 = some t) (hrest : (rest.map fun v => v.category).sum ≤ 8) (hdg : decode cc pc = .ok (.invokevirtual index, 3)) (hc : cells ≤ R.cells ∧ slots ≤ R.slots) (kk : ∀ (H1 : Heap) (locs1 : List Loc), mH D cI cZ ad t v1 v2 v3 v4 v5 v6 v7 v8 s H1 locs1 → W p l e R s m args below meth c H1 locs1 cells slots Q (F0 m (pc + 3) ls (rest))) : W p l e R s m args below meth c H locs cells slots Q (F0 m pc ls (.ref (ad 0) :: rest)) := by
  have hA : ∀ q, mA ad H.size q → mA ad s.heap.size q := fun q h => h.elim Or.inl (fun h => Or.inr (Nat.le_trans hH.2.1 h))
  refine va_callv (va_runV (As := []) (rest := rest) X.1 (c5_order l hI H.size hf) (cwV 0 X.1.2.2.2.2 hG rfl rfl rfl (by decide +kernel) hR) ⟨mBs_bl, va_recv X.2.2.2 hH.1 (ci := 5) (q0 := 0) rfl rfl, fun U hU hW => ⟨rfl, by rw [hU], by rw [hU]; exact hH.1, va_K.moved hW.alike X.2.2.2⟩⟩ rfl rfl hls rfl (lv_room hrest) hdg hc) hH.2 (fun q _ h => hA q h) hA (fun u t9 H1 locs1 ht hvm hw hB hz1 hk1 hS => ?_)
  exact kk H1 locs1 ⟨by rw [← ht]; exact hB.1, hS⟩
