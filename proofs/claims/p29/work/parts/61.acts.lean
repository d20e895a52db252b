/-! the law: acts -/
/-! OreRailwayLaw.acts(LOreRailway;I)I -/
def rm6_acts : Room := { frames := 9, cells := 153, slots := 918, locals := 193 }
def f6_acts_508 (y0 : Int32) (y1 : Int32) (y2 : Int32) (mu : Nat → Nat → Int32) : Option (Int32 × (Nat → Nat → Int32)) := gr y0 (Option.bind (f6_run_0 (y2 + (rmI y1 y0)) mu) (fun t2 => some (t2.1, t2.2)))
set_option maxRecDepth 100000 in
set_option maxHeartbeats 4000000 in
theorem w6_acts_508 {p : Program} {l : Launch} {e : Env} {s : State} {m : MethodId} {args : Array Value} {below : List Frame} {meth : Method} {c : Code} {D : va_G} {Y : cYt} {ad : Nat → Nat} {mu : Nat → Nat → Int32} (X : cX D Y p s m args meth c cL_acts 8 RL (some .int)) (hI : cInj ad) (hl0 : l.stackTraces = false) (hZ : lZ ad s.heap.size s)  {y0 : Int32} {y1 : Int32} {y2 : Int32} {t : Int32 × (Nat → Nat → Int32)} {H : Heap} {locs : List Loc} (hH : cH D Y ad mu s H locs) {cells slots : Nat} (hc : cells + 3 * (1) ≤ 153 ∧ slots + 18 * (1) ≤ 918) {ls : Array Slot} (hl : lv_has ls 8 []) (hf : f6_acts_508 y0 y1 y2 mu = some t) : W p l e rm6_acts s m args below meth c H locs cells slots (MQ below (va_Qi (fun (r9 : Int32) (_ : Unit) => r9 = t.1) (fun _ t9 => cB D Y ad t.2 t9) (cA ad s.heap.size)) args s 153 918 (cA ad s.heap.size)) (F0 m 508 ls [.int y0, .int y1, .int y2, .ref (ad 150)]) := by
  obtain ⟨⟨hx, hb, hml, hown, hts⟩, hr, hlk, hK⟩ := id X
  replace hf : (gr y0 (Option.bind (f6_run_0 (y2 + (rmI y1 y0)) mu) (fun t2 => some (t2.1, t2.2)))) = some t := hf
  obtain ⟨hn1, hf⟩ := gr_o hf
  refine hr_irem hx hb dL_acts_508 hn1 ?_
  refine lv_iadd hx hb dL_acts_509 ?_
  obtain ⟨t2, ht2, hf⟩ := bd_o hf
  refine kh (MC := 153) (MS := 918) (As := [.ref (ad 150), .int (y2 + (rmI y1 y0))]) (rest := []) ⟨rfl, rfl⟩ X hZ hH (h6_run l hI hl0 _ (y2 + (rmI y1 y0)) ht2) (vx_cwSW 2 hts qL_130 rfl rfl rfl (by decide +kernel) ⟨Nat.le_of_ble_eq_true rfl, Nat.le_of_ble_eq_true rfl⟩) rfl hl.1 rfl (Nat.le_of_ble_eq_true rfl) dL_acts_510 ⟨by omega, by omega⟩ (fun H locs hH => ?_)
  obtain rfl := so_i hf
  exact e6_i X hH rfl (by omega) (by omega) dL_acts_513
def f6_acts_491 (y0 : Int32) (mu : Nat → Nat → Int32) : Option (Int32 × (Nat → Nat → Int32)) := some (y0, mu)
set_option maxRecDepth 100000 in
set_option maxHeartbeats 4000000 in
theorem w6_acts_491 {p : Program} {l : Launch} {e : Env} {s : State} {m : MethodId} {args : Array Value} {below : List Frame} {meth : Method} {c : Code} {D : va_G} {Y : cYt} {ad : Nat → Nat} {mu : Nat → Nat → Int32} (X : cX D Y p s m args meth c cL_acts 8 RL (some .int)) (hI : cInj ad) (hl0 : l.stackTraces = false) (hZ : lZ ad s.heap.size s)  {y0 : Int32} {t : Int32 × (Nat → Nat → Int32)} {H : Heap} {locs : List Loc} (hH : cH D Y ad mu s H locs) {cells slots : Nat} (hc : cells + 3 * (0) ≤ 153 ∧ slots + 18 * (0) ≤ 918) {ls : Array Slot} (hl : lv_has ls 8 []) (hf : f6_acts_491 y0 mu = some t) : W p l e rm6_acts s m args below meth c H locs cells slots (MQ below (va_Qi (fun (r9 : Int32) (_ : Unit) => r9 = t.1) (fun _ t9 => cB D Y ad t.2 t9) (cA ad s.heap.size)) args s 153 918 (cA ad s.heap.size)) (F0 m 491 ls [.int y0]) := by
  obtain ⟨⟨hx, hb, hml, hown, hts⟩, hr, hlk, hK⟩ := id X
  replace hf : (some (y0, mu)) = some t := hf
  obtain rfl := so_i hf
  exact e6_i X hH rfl (by omega) (by omega) dL_acts_491
def f6_acts_482 (mu : Nat → Nat → Int32) : Option (Int32 × (Nat → Nat → Int32)) := f6_acts_491 ((-9)) mu
set_option maxRecDepth 100000 in
set_option maxHeartbeats 4000000 in
theorem w6_acts_482 {p : Program} {l : Launch} {e : Env} {s : State} {m : MethodId} {args : Array Value} {below : List Frame} {meth : Method} {c : Code} {D : va_G} {Y : cYt} {ad : Nat → Nat} {mu : Nat → Nat → Int32} (X : cX D Y p s m args meth c cL_acts 8 RL (some .int)) (hI : cInj ad) (hl0 : l.stackTraces = false) (hZ : lZ ad s.heap.size s)  {t : Int32 × (Nat → Nat → Int32)} {H : Heap} {locs : List Loc} (hH : cH D Y ad mu s H locs) {cells slots : Nat} (hc : cells + 3 * (0) ≤ 153 ∧ slots + 18 * (0) ≤ 918) {ls : Array Slot} (hl : lv_has ls 8 []) (hf : f6_acts_482 mu = some t) : W p l e rm6_acts s m args below meth c H locs cells slots (MQ below (va_Qi (fun (r9 : Int32) (_ : Unit) => r9 = t.1) (fun _ t9 => cB D Y ad t.2 t9) (cA ad s.heap.size)) args s 153 918 (cA ad s.heap.size)) (F0 m 482 ls []) := by
  obtain ⟨⟨hx, hb, hml, hown, hts⟩, hr, hlk, hK⟩ := id X
  replace hf : (f6_acts_491 ((-9)) mu) = some t := hf
  refine lv_bipush (v := (-9)) hx hb dL_acts_482 (by decide) ?_
  refine lv_goto (tgt := 491) hx hb dL_acts_484 (by decide) ?_
  exact w6_acts_491 X hI hl0 hZ hH ⟨by omega, by omega⟩ (lv_sub hl [] rfl) hf
def f6_acts_459 (K279 : Int32 → Int32 → Int32 → (Nat → Nat → Int32) → (Option (Int32 × (Nat → Nat → Int32)))) (x2 : Int32) (x6 : Int32) (y0 : Int32) (mu : Nat → Nat → Int32) : Option (Int32 × (Nat → Nat → Int32)) := K279 x2 y0 (x6 + 1) mu
set_option maxRecDepth 100000 in
set_option maxHeartbeats 4000000 in
theorem w6_acts_459 {p : Program} {l : Launch} {e : Env} {s : State} {m : MethodId} {args : Array Value} {below : List Frame} {meth : Method} {c : Code} {D : va_G} {Y : cYt} {ad : Nat → Nat} {mu : Nat → Nat → Int32} (X : cX D Y p s m args meth c cL_acts 8 RL (some .int)) (hI : cInj ad) (hl0 : l.stackTraces = false) (hZ : lZ ad s.heap.size s)  {x2 : Int32} {x6 : Int32} {y0 : Int32} {t : Int32 × (Nat → Nat → Int32)} {kb : Nat} (hkb : 0 ≤ kb) {K279 : Int32 → Int32 → Int32 → (Nat → Nat → Int32) → (Option (Int32 × (Nat → Nat → Int32)))} (hK279 : ∀ (x2 : Int32) (x5 : Int32) (x6 : Int32) (mu : Nat → Nat → Int32) (H : Heap) (locs : List Loc) (cells slots : Nat), cH D Y ad mu s H locs → cells + 3 * (kb) ≤ 153 ∧ slots + 18 * (kb) ≤ 918 → ∀ (ls : Array Slot), lv_has ls 8 [(0, .ref (ad 150)), (2, .int x2), (5, .int x5), (6, .int x6)] → K279 x2 x5 x6 mu = some t → W p l e rm6_acts s m args below meth c H locs cells slots (MQ below (va_Qi (fun (r9 : Int32) (_ : Unit) => r9 = t.1) (fun _ t9 => cB D Y ad t.2 t9) (cA ad s.heap.size)) args s 153 918 (cA ad s.heap.size)) (F0 m 279 ls [])) {H : Heap} {locs : List Loc} (hH : cH D Y ad mu s H locs) {cells slots : Nat} (hc : cells + 3 * (0 + kb) ≤ 153 ∧ slots + 18 * (0 + kb) ≤ 918) {ls : Array Slot} (hl : lv_has ls 8 [(0, .ref (ad 150)), (2, .int x2), (6, .int x6)]) (hf : f6_acts_459 K279 x2 x6 y0 mu = some t) : W p l e rm6_acts s m args below meth c H locs cells slots (MQ below (va_Qi (fun (r9 : Int32) (_ : Unit) => r9 = t.1) (fun _ t9 => cB D Y ad t.2 t9) (cA ad s.heap.size)) args s 153 918 (cA ad s.heap.size)) (F0 m 459 ls [.int y0]) := by
  obtain ⟨⟨hx, hb, hml, hown, hts⟩, hr, hlk, hK⟩ := id X
  replace hf : (K279 x2 y0 (x6 + 1) mu) = some t := hf
  refine lv_istore (lv' := [(5, .int y0), (0, .ref (ad 150)), (2, .int x2), (6, .int x6)]) hx hb dL_acts_459 hl (by decide) rfl (fun ls hl => ?_)
  refine lv_iinc (v := x6 + 1) (lv' := [(6, .int (x6 + 1)), (5, .int y0), (0, .ref (ad 150)), (2, .int x2)]) hx hb dL_acts_461 hl (k := 3) rfl rfl (by decide) rfl (fun ls hl => ?_)
  refine lv_goto (tgt := 279) hx hb dL_acts_464 (by decide) ?_
  exact hK279 _ _ _ _ _ _ _ _ hH ⟨by omega, by omega⟩ _ (lv_sub hl [2, 3, 1, 0] rfl) hf
def f6_acts_429 (K279 : Int32 → Int32 → Int32 → (Nat → Nat → Int32) → (Option (Int32 × (Nat → Nat → Int32)))) (x2 : Int32) (x6 : Int32) (x7 : Int32) (y0 : Int32) (mu : Nat → Nat → Int32) : Option (Int32 × (Nat → Nat → Int32)) := if 2 ≤ (rmI x7 4) then (f6_acts_459 K279 x2 x6 y0 mu) else (Option.bind (f6_append_0 (49 + (rmI (x7 / 16) 9)) mu) (fun t2 => f6_acts_459 K279 x2 x6 t2.1 t2.2))
set_option maxRecDepth 100000 in
set_option maxHeartbeats 4000000 in
theorem w6_acts_429 {p : Program} {l : Launch} {e : Env} {s : State} {m : MethodId} {args : Array Value} {below : List Frame} {meth : Method} {c : Code} {D : va_G} {Y : cYt} {ad : Nat → Nat} {mu : Nat → Nat → Int32} (X : cX D Y p s m args meth c cL_acts 8 RL (some .int)) (hI : cInj ad) (hl0 : l.stackTraces = false) (hZ : lZ ad s.heap.size s)  {x2 : Int32} {x6 : Int32} {x7 : Int32} {y0 : Int32} {t : Int32 × (Nat → Nat → Int32)} {kb : Nat} (hkb : 0 ≤ kb) {K279 : Int32 → Int32 → Int32 → (Nat → Nat → Int32) → (Option (Int32 × (Nat → Nat → Int32)))} (hK279 : ∀ (x2 : Int32) (x5 : Int32) (x6 : Int32) (mu : Nat → Nat → Int32) (H : Heap) (locs : List Loc) (cells slots : Nat), cH D Y ad mu s H locs → cells + 3 * (kb) ≤ 153 ∧ slots + 18 * (kb) ≤ 918 → ∀ (ls : Array Slot), lv_has ls 8 [(0, .ref (ad 150)), (2, .int x2), (5, .int x5), (6, .int x6)] → K279 x2 x5 x6 mu = some t → W p l e rm6_acts s m args below meth c H locs cells slots (MQ below (va_Qi (fun (r9 : Int32) (_ : Unit) => r9 = t.1) (fun _ t9 => cB D Y ad t.2 t9) (cA ad s.heap.size)) args s 153 918 (cA ad s.heap.size)) (F0 m 279 ls [])) {H : Heap} {locs : List Loc} (hH : cH D Y ad mu s H locs) {cells slots : Nat} (hc : cells + 3 * (1 + kb) ≤ 153 ∧ slots + 18 * (1 + kb) ≤ 918) {ls : Array Slot} (hl : lv_has ls 8 [(0, .ref (ad 150)), (2, .int x2), (6, .int x6), (7, .int x7)]) (hf : f6_acts_429 K279 x2 x6 x7 y0 mu = some t) : W p l e rm6_acts s m args below meth c H locs cells slots (MQ below (va_Qi (fun (r9 : Int32) (_ : Unit) => r9 = t.1) (fun _ t9 => cB D Y ad t.2 t9) (cA ad s.heap.size)) args s 153 918 (cA ad s.heap.size)) (F0 m 429 ls [.int y0]) := by
  obtain ⟨⟨hx, hb, hml, hown, hts⟩, hr, hlk, hK⟩ := id X
  replace hf : (if 2 ≤ (rmI x7 4) then (f6_acts_459 K279 x2 x6 y0 mu) else (Option.bind (f6_append_0 (49 + (rmI (x7 / 16) 9)) mu) (fun t2 => f6_acts_459 K279 x2 x6 t2.1 t2.2))) = some t := hf
  refine lv_istore (lv' := [(5, .int y0), (0, .ref (ad 150)), (2, .int x2), (6, .int x6), (7, .int x7)]) hx hb dL_acts_429 hl (by decide) rfl (fun ls hl => ?_)
  refine lv_iload hx hb dL_acts_431 (lv_at hl 4 rfl) ?_
  refine lv_iconst (v := 4) hx hb dL_acts_433 (by decide) ?_
  refine hr_irem hx hb dL_acts_434 (by decide) ?_
  refine lv_iconst (v := 2) hx hb dL_acts_435 (by decide) ?_
  refine lv_icmp_ge (tgt := 457) hx hb dL_acts_436 (by decide) (fun c1 => ?_) (fun c1 => ?_)
  · have hf := it_t c1 hf
    refine lv_iload hx hb dL_acts_457 (lv_at hl 0 rfl) ?_
    exact w6_acts_459 X hI hl0 hZ (kb := kb) (by omega) (K279 := K279) hK279 hH ⟨by omega, by omega⟩ (lv_sub hl [1, 2, 3] rfl) hf
  · have hf := it_f c1 hf
    refine lv_aload_n hx hb dL_acts_439 rfl (lv_at hl 1 rfl) ?_
    refine lv_bipush (v := 49) hx hb dL_acts_440 (by decide) ?_
    refine lv_iload hx hb dL_acts_442 (lv_at hl 4 rfl) ?_
    refine lv_bipush (v := 16) hx hb dL_acts_444 (by decide) ?_
    refine lv_idiv hx hb dL_acts_446 (by decide) ?_
    refine lv_bipush (v := 9) hx hb dL_acts_447 (by decide) ?_
    refine hr_irem hx hb dL_acts_449 (by decide) ?_
    refine lv_iadd hx hb dL_acts_450 ?_
    obtain ⟨t2, ht2, hf⟩ := bd_o hf
    refine kh (MC := 153) (MS := 918) (As := [.ref (ad 150), .int (49 + (rmI (x7 / 16) 9))]) (rest := []) ⟨rfl, rfl⟩ X hZ hH (h6_append l hI hl0 _ (49 + (rmI (x7 / 16) 9)) ht2) (vx_cwSW 2 hts qL_123 rfl rfl rfl (by decide +kernel) ⟨Nat.le_of_ble_eq_true rfl, Nat.le_of_ble_eq_true rfl⟩) rfl hl.1 rfl (Nat.le_of_ble_eq_true rfl) dL_acts_451 ⟨by omega, by omega⟩ (fun H locs hH => ?_)
    refine lv_goto (tgt := 459) hx hb dL_acts_454 (by decide) ?_
    exact w6_acts_459 X hI hl0 hZ (kb := kb) (by omega) (K279 := K279) hK279 hH ⟨by omega, by omega⟩ (lv_sub hl [1, 2, 3] rfl) hf
def f6_acts_421 (K279 : Int32 → Int32 → Int32 → (Nat → Nat → Int32) → (Option (Int32 × (Nat → Nat → Int32)))) (x2 : Int32) (x6 : Int32) (x7 : Int32) (y0 : Int32) (mu : Nat → Nat → Int32) : Option (Int32 × (Nat → Nat → Int32)) := Option.bind (f6_append_0 y0 mu) (fun t1 => f6_acts_429 K279 x2 x6 x7 t1.1 t1.2)
set_option maxRecDepth 100000 in
set_option maxHeartbeats 4000000 in
theorem w6_acts_421 {p : Program} {l : Launch} {e : Env} {s : State} {m : MethodId} {args : Array Value} {below : List Frame} {meth : Method} {c : Code} {D : va_G} {Y : cYt} {ad : Nat → Nat} {mu : Nat → Nat → Int32} (X : cX D Y p s m args meth c cL_acts 8 RL (some .int)) (hI : cInj ad) (hl0 : l.stackTraces = false) (hZ : lZ ad s.heap.size s)  {x2 : Int32} {x6 : Int32} {x7 : Int32} {y0 : Int32} {t : Int32 × (Nat → Nat → Int32)} {kb : Nat} (hkb : 0 ≤ kb) {K279 : Int32 → Int32 → Int32 → (Nat → Nat → Int32) → (Option (Int32 × (Nat → Nat → Int32)))} (hK279 : ∀ (x2 : Int32) (x5 : Int32) (x6 : Int32) (mu : Nat → Nat → Int32) (H : Heap) (locs : List Loc) (cells slots : Nat), cH D Y ad mu s H locs → cells + 3 * (kb) ≤ 153 ∧ slots + 18 * (kb) ≤ 918 → ∀ (ls : Array Slot), lv_has ls 8 [(0, .ref (ad 150)), (2, .int x2), (5, .int x5), (6, .int x6)] → K279 x2 x5 x6 mu = some t → W p l e rm6_acts s m args below meth c H locs cells slots (MQ below (va_Qi (fun (r9 : Int32) (_ : Unit) => r9 = t.1) (fun _ t9 => cB D Y ad t.2 t9) (cA ad s.heap.size)) args s 153 918 (cA ad s.heap.size)) (F0 m 279 ls [])) {H : Heap} {locs : List Loc} (hH : cH D Y ad mu s H locs) {cells slots : Nat} (hc : cells + 3 * (2 + kb) ≤ 153 ∧ slots + 18 * (2 + kb) ≤ 918) {ls : Array Slot} (hl : lv_has ls 8 [(0, .ref (ad 150)), (2, .int x2), (6, .int x6), (7, .int x7)]) (hf : f6_acts_421 K279 x2 x6 x7 y0 mu = some t) : W p l e rm6_acts s m args below meth c H locs cells slots (MQ below (va_Qi (fun (r9 : Int32) (_ : Unit) => r9 = t.1) (fun _ t9 => cB D Y ad t.2 t9) (cA ad s.heap.size)) args s 153 918 (cA ad s.heap.size)) (F0 m 421 ls [.int y0, .ref (ad 150)]) := by
  obtain ⟨⟨hx, hb, hml, hown, hts⟩, hr, hlk, hK⟩ := id X
  replace hf : (Option.bind (f6_append_0 y0 mu) (fun t1 => f6_acts_429 K279 x2 x6 x7 t1.1 t1.2)) = some t := hf
  obtain ⟨t1, ht1, hf⟩ := bd_o hf
  refine kh (MC := 153) (MS := 918) (As := [.ref (ad 150), .int y0]) (rest := []) ⟨rfl, rfl⟩ X hZ hH (h6_append l hI hl0 _ y0 ht1) (vx_cwSW 2 hts qL_123 rfl rfl rfl (by decide +kernel) ⟨Nat.le_of_ble_eq_true rfl, Nat.le_of_ble_eq_true rfl⟩) rfl hl.1 rfl (Nat.le_of_ble_eq_true rfl) dL_acts_421 ⟨by omega, by omega⟩ (fun H locs hH => ?_)
  refine lv_goto (tgt := 429) hx hb dL_acts_424 (by decide) ?_
  exact w6_acts_429 X hI hl0 hZ (kb := kb) (by omega) (K279 := K279) hK279 hH ⟨by omega, by omega⟩ (lv_sub hl [0, 1, 2, 3] rfl) hf
def f6_acts_393 (K279 : Int32 → Int32 → Int32 → (Nat → Nat → Int32) → (Option (Int32 × (Nat → Nat → Int32)))) (x2 : Int32) (x6 : Int32) (x7 : Int32) (y0 : Int32) (mu : Nat → Nat → Int32) : Option (Int32 × (Nat → Nat → Int32)) := Option.bind (f6_append_0 y0 mu) (fun t1 => if 2 ≤ (rmI x7 4) then (f6_acts_429 K279 x2 x6 x7 t1.1 t1.2) else (if (rmI x7 4) = 0 then (f6_acts_421 K279 x2 x6 x7 43 t1.2) else (f6_acts_421 K279 x2 x6 x7 47 t1.2)))
set_option maxRecDepth 100000 in
set_option maxHeartbeats 4000000 in
theorem w6_acts_393 {p : Program} {l : Launch} {e : Env} {s : State} {m : MethodId} {args : Array Value} {below : List Frame} {meth : Method} {c : Code} {D : va_G} {Y : cYt} {ad : Nat → Nat} {mu : Nat → Nat → Int32} (X : cX D Y p s m args meth c cL_acts 8 RL (some .int)) (hI : cInj ad) (hl0 : l.stackTraces = false) (hZ : lZ ad s.heap.size s)  {x2 : Int32} {x6 : Int32} {x7 : Int32} {y0 : Int32} {t : Int32 × (Nat → Nat → Int32)} {kb : Nat} (hkb : 0 ≤ kb) {K279 : Int32 → Int32 → Int32 → (Nat → Nat → Int32) → (Option (Int32 × (Nat → Nat → Int32)))} (hK279 : ∀ (x2 : Int32) (x5 : Int32) (x6 : Int32) (mu : Nat → Nat → Int32) (H : Heap) (locs : List Loc) (cells slots : Nat), cH D Y ad mu s H locs → cells + 3 * (kb) ≤ 153 ∧ slots + 18 * (kb) ≤ 918 → ∀ (ls : Array Slot), lv_has ls 8 [(0, .ref (ad 150)), (2, .int x2), (5, .int x5), (6, .int x6)] → K279 x2 x5 x6 mu = some t → W p l e rm6_acts s m args below meth c H locs cells slots (MQ below (va_Qi (fun (r9 : Int32) (_ : Unit) => r9 = t.1) (fun _ t9 => cB D Y ad t.2 t9) (cA ad s.heap.size)) args s 153 918 (cA ad s.heap.size)) (F0 m 279 ls [])) {H : Heap} {locs : List Loc} (hH : cH D Y ad mu s H locs) {cells slots : Nat} (hc : cells + 3 * (3 + kb) ≤ 153 ∧ slots + 18 * (3 + kb) ≤ 918) {ls : Array Slot} (hl : lv_has ls 8 [(0, .ref (ad 150)), (2, .int x2), (6, .int x6), (7, .int x7)]) (hf : f6_acts_393 K279 x2 x6 x7 y0 mu = some t) : W p l e rm6_acts s m args below meth c H locs cells slots (MQ below (va_Qi (fun (r9 : Int32) (_ : Unit) => r9 = t.1) (fun _ t9 => cB D Y ad t.2 t9) (cA ad s.heap.size)) args s 153 918 (cA ad s.heap.size)) (F0 m 393 ls [.int y0, .ref (ad 150)]) := by
  obtain ⟨⟨hx, hb, hml, hown, hts⟩, hr, hlk, hK⟩ := id X
  replace hf : (Option.bind (f6_append_0 y0 mu) (fun t1 => if 2 ≤ (rmI x7 4) then (f6_acts_429 K279 x2 x6 x7 t1.1 t1.2) else (if (rmI x7 4) = 0 then (f6_acts_421 K279 x2 x6 x7 43 t1.2) else (f6_acts_421 K279 x2 x6 x7 47 t1.2)))) = some t := hf
  obtain ⟨t1, ht1, hf⟩ := bd_o hf
  refine kh (MC := 153) (MS := 918) (As := [.ref (ad 150), .int y0]) (rest := []) ⟨rfl, rfl⟩ X hZ hH (h6_append l hI hl0 _ y0 ht1) (vx_cwSW 2 hts qL_123 rfl rfl rfl (by decide +kernel) ⟨Nat.le_of_ble_eq_true rfl, Nat.le_of_ble_eq_true rfl⟩) rfl hl.1 rfl (Nat.le_of_ble_eq_true rfl) dL_acts_393 ⟨by omega, by omega⟩ (fun H locs hH => ?_)
  refine lv_istore (lv' := [(5, .int t1.1), (0, .ref (ad 150)), (2, .int x2), (6, .int x6), (7, .int x7)]) hx hb dL_acts_396 hl (by decide) rfl (fun ls hl => ?_)
  refine lv_iload hx hb dL_acts_398 (lv_at hl 4 rfl) ?_
  refine lv_iconst (v := 4) hx hb dL_acts_400 (by decide) ?_
  refine hr_irem hx hb dL_acts_401 (by decide) ?_
  refine lv_iconst (v := 2) hx hb dL_acts_402 (by decide) ?_
  refine lv_icmp_ge (tgt := 427) hx hb dL_acts_403 (by decide) (fun c2 => ?_) (fun c2 => ?_)
  · have hf := it_t c2 hf
    refine lv_iload hx hb dL_acts_427 (lv_at hl 0 rfl) ?_
    exact w6_acts_429 X hI hl0 hZ (kb := kb) (by omega) (K279 := K279) hK279 hH ⟨by omega, by omega⟩ (lv_sub hl [1, 2, 3, 4] rfl) hf
  · have hf := it_f c2 hf
    refine lv_aload_n hx hb dL_acts_406 rfl (lv_at hl 1 rfl) ?_
    refine lv_iload hx hb dL_acts_407 (lv_at hl 4 rfl) ?_
    refine lv_iconst (v := 4) hx hb dL_acts_409 (by decide) ?_
    refine hr_irem hx hb dL_acts_410 (by decide) ?_
    refine lv_if_ne (tgt := 419) hx hb dL_acts_411 (by decide) (fun c3 => ?_) (fun c3 => ?_)
    · have hf := it_f c3 hf
      refine lv_bipush (v := 47) hx hb dL_acts_419 (by decide) ?_
      exact w6_acts_421 X hI hl0 hZ (kb := kb) (by omega) (K279 := K279) hK279 hH ⟨by omega, by omega⟩ (lv_sub hl [1, 2, 3, 4] rfl) hf
    · have hf := it_t c3 hf
      refine lv_bipush (v := 43) hx hb dL_acts_414 (by decide) ?_
      refine lv_goto (tgt := 421) hx hb dL_acts_416 (by decide) ?_
      exact w6_acts_421 X hI hl0 hZ (kb := kb) (by omega) (K279 := K279) hK279 hH ⟨by omega, by omega⟩ (lv_sub hl [1, 2, 3, 4] rfl) hf
def f6_acts_357 (K279 : Int32 → Int32 → Int32 → (Nat → Nat → Int32) → (Option (Int32 × (Nat → Nat → Int32)))) (x2 : Int32) (x6 : Int32) (x7 : Int32) (y0 : Int32) (mu : Nat → Nat → Int32) : Option (Int32 × (Nat → Nat → Int32)) := Option.bind (f6_append_0 y0 mu) (fun t1 => if (rmI x7 4) = 2 then (f6_acts_393 K279 x2 x6 x7 (49 + (rmI (x7 / 4) 9)) t1.2) else (f6_acts_393 K279 x2 x6 x7 (48 + (rmI (x7 / 4) 4)) t1.2))
set_option maxRecDepth 100000 in
set_option maxHeartbeats 4000000 in
theorem w6_acts_357 {p : Program} {l : Launch} {e : Env} {s : State} {m : MethodId} {args : Array Value} {below : List Frame} {meth : Method} {c : Code} {D : va_G} {Y : cYt} {ad : Nat → Nat} {mu : Nat → Nat → Int32} (X : cX D Y p s m args meth c cL_acts 8 RL (some .int)) (hI : cInj ad) (hl0 : l.stackTraces = false) (hZ : lZ ad s.heap.size s)  {x2 : Int32} {x6 : Int32} {x7 : Int32} {y0 : Int32} {t : Int32 × (Nat → Nat → Int32)} {kb : Nat} (hkb : 0 ≤ kb) {K279 : Int32 → Int32 → Int32 → (Nat → Nat → Int32) → (Option (Int32 × (Nat → Nat → Int32)))} (hK279 : ∀ (x2 : Int32) (x5 : Int32) (x6 : Int32) (mu : Nat → Nat → Int32) (H : Heap) (locs : List Loc) (cells slots : Nat), cH D Y ad mu s H locs → cells + 3 * (kb) ≤ 153 ∧ slots + 18 * (kb) ≤ 918 → ∀ (ls : Array Slot), lv_has ls 8 [(0, .ref (ad 150)), (2, .int x2), (5, .int x5), (6, .int x6)] → K279 x2 x5 x6 mu = some t → W p l e rm6_acts s m args below meth c H locs cells slots (MQ below (va_Qi (fun (r9 : Int32) (_ : Unit) => r9 = t.1) (fun _ t9 => cB D Y ad t.2 t9) (cA ad s.heap.size)) args s 153 918 (cA ad s.heap.size)) (F0 m 279 ls [])) {H : Heap} {locs : List Loc} (hH : cH D Y ad mu s H locs) {cells slots : Nat} (hc : cells + 3 * (4 + kb) ≤ 153 ∧ slots + 18 * (4 + kb) ≤ 918) {ls : Array Slot} (hl : lv_has ls 8 [(0, .ref (ad 150)), (2, .int x2), (6, .int x6), (7, .int x7)]) (hf : f6_acts_357 K279 x2 x6 x7 y0 mu = some t) : W p l e rm6_acts s m args below meth c H locs cells slots (MQ below (va_Qi (fun (r9 : Int32) (_ : Unit) => r9 = t.1) (fun _ t9 => cB D Y ad t.2 t9) (cA ad s.heap.size)) args s 153 918 (cA ad s.heap.size)) (F0 m 357 ls [.int y0, .ref (ad 150)]) := by
  obtain ⟨⟨hx, hb, hml, hown, hts⟩, hr, hlk, hK⟩ := id X
  replace hf : (Option.bind (f6_append_0 y0 mu) (fun t1 => if (rmI x7 4) = 2 then (f6_acts_393 K279 x2 x6 x7 (49 + (rmI (x7 / 4) 9)) t1.2) else (f6_acts_393 K279 x2 x6 x7 (48 + (rmI (x7 / 4) 4)) t1.2))) = some t := hf
  obtain ⟨t1, ht1, hf⟩ := bd_o hf
  refine kh (MC := 153) (MS := 918) (As := [.ref (ad 150), .int y0]) (rest := []) ⟨rfl, rfl⟩ X hZ hH (h6_append l hI hl0 _ y0 ht1) (vx_cwSW 2 hts qL_123 rfl rfl rfl (by decide +kernel) ⟨Nat.le_of_ble_eq_true rfl, Nat.le_of_ble_eq_true rfl⟩) rfl hl.1 rfl (Nat.le_of_ble_eq_true rfl) dL_acts_357 ⟨by omega, by omega⟩ (fun H locs hH => ?_)
  refine lv_istore (lv' := [(5, .int t1.1), (0, .ref (ad 150)), (2, .int x2), (6, .int x6), (7, .int x7)]) hx hb dL_acts_360 hl (by decide) rfl (fun ls hl => ?_)
  refine lv_aload_n hx hb dL_acts_362 rfl (lv_at hl 1 rfl) ?_
  refine lv_iload hx hb dL_acts_363 (lv_at hl 4 rfl) ?_
  refine lv_iconst (v := 4) hx hb dL_acts_365 (by decide) ?_
  refine hr_irem hx hb dL_acts_366 (by decide) ?_
  refine lv_iconst (v := 2) hx hb dL_acts_367 (by decide) ?_
  refine lv_icmp_ne (tgt := 384) hx hb dL_acts_368 (by decide) (fun c2 => ?_) (fun c2 => ?_)
  · have hf := it_f c2 hf
    refine lv_bipush (v := 48) hx hb dL_acts_384 (by decide) ?_
    refine lv_iload hx hb dL_acts_386 (lv_at hl 4 rfl) ?_
    refine lv_iconst (v := 4) hx hb dL_acts_388 (by decide) ?_
    refine lv_idiv hx hb dL_acts_389 (by decide) ?_
    refine lv_iconst (v := 4) hx hb dL_acts_390 (by decide) ?_
    refine hr_irem hx hb dL_acts_391 (by decide) ?_
    refine lv_iadd hx hb dL_acts_392 ?_
    exact w6_acts_393 X hI hl0 hZ (kb := kb) (by omega) (K279 := K279) hK279 hH ⟨by omega, by omega⟩ (lv_sub hl [1, 2, 3, 4] rfl) hf
  · have hf := it_t c2 hf
    refine lv_bipush (v := 49) hx hb dL_acts_371 (by decide) ?_
    refine lv_iload hx hb dL_acts_373 (lv_at hl 4 rfl) ?_
    refine lv_iconst (v := 4) hx hb dL_acts_375 (by decide) ?_
    refine lv_idiv hx hb dL_acts_376 (by decide) ?_
    refine lv_bipush (v := 9) hx hb dL_acts_377 (by decide) ?_
    refine hr_irem hx hb dL_acts_379 (by decide) ?_
    refine lv_iadd hx hb dL_acts_380 ?_
    refine lv_goto (tgt := 393) hx hb dL_acts_381 (by decide) ?_
    exact w6_acts_393 X hI hl0 hZ (kb := kb) (by omega) (K279 := K279) hK279 hH ⟨by omega, by omega⟩ (lv_sub hl [1, 2, 3, 4] rfl) hf
def f6_acts_314 (K279 : Int32 → Int32 → Int32 → (Nat → Nat → Int32) → (Option (Int32 × (Nat → Nat → Int32)))) (x2 : Int32) (x6 : Int32) (x7 : Int32) (y0 : Int32) (mu : Nat → Nat → Int32) : Option (Int32 × (Nat → Nat → Int32)) := if (rmI x7 4) = 0 then (f6_acts_357 K279 x2 x6 x7 108 mu) else (if (rmI x7 4) = 1 then (f6_acts_357 K279 x2 x6 x7 114 mu) else (if (rmI x7 4) = 2 then (f6_acts_357 K279 x2 x6 x7 116 mu) else (f6_acts_357 K279 x2 x6 x7 109 mu)))
set_option maxRecDepth 100000 in
set_option maxHeartbeats 4000000 in
theorem w6_acts_314 {p : Program} {l : Launch} {e : Env} {s : State} {m : MethodId} {args : Array Value} {below : List Frame} {meth : Method} {c : Code} {D : va_G} {Y : cYt} {ad : Nat → Nat} {mu : Nat → Nat → Int32} (X : cX D Y p s m args meth c cL_acts 8 RL (some .int)) (hI : cInj ad) (hl0 : l.stackTraces = false) (hZ : lZ ad s.heap.size s)  {x2 : Int32} {x6 : Int32} {x7 : Int32} {y0 : Int32} {t : Int32 × (Nat → Nat → Int32)} {kb : Nat} (hkb : 0 ≤ kb) {K279 : Int32 → Int32 → Int32 → (Nat → Nat → Int32) → (Option (Int32 × (Nat → Nat → Int32)))} (hK279 : ∀ (x2 : Int32) (x5 : Int32) (x6 : Int32) (mu : Nat → Nat → Int32) (H : Heap) (locs : List Loc) (cells slots : Nat), cH D Y ad mu s H locs → cells + 3 * (kb) ≤ 153 ∧ slots + 18 * (kb) ≤ 918 → ∀ (ls : Array Slot), lv_has ls 8 [(0, .ref (ad 150)), (2, .int x2), (5, .int x5), (6, .int x6)] → K279 x2 x5 x6 mu = some t → W p l e rm6_acts s m args below meth c H locs cells slots (MQ below (va_Qi (fun (r9 : Int32) (_ : Unit) => r9 = t.1) (fun _ t9 => cB D Y ad t.2 t9) (cA ad s.heap.size)) args s 153 918 (cA ad s.heap.size)) (F0 m 279 ls [])) {H : Heap} {locs : List Loc} (hH : cH D Y ad mu s H locs) {cells slots : Nat} (hc : cells + 3 * (4 + kb) ≤ 153 ∧ slots + 18 * (4 + kb) ≤ 918) {ls : Array Slot} (hl : lv_has ls 8 [(0, .ref (ad 150)), (2, .int x2), (6, .int x6), (7, .int x7)]) (hf : f6_acts_314 K279 x2 x6 x7 y0 mu = some t) : W p l e rm6_acts s m args below meth c H locs cells slots (MQ below (va_Qi (fun (r9 : Int32) (_ : Unit) => r9 = t.1) (fun _ t9 => cB D Y ad t.2 t9) (cA ad s.heap.size)) args s 153 918 (cA ad s.heap.size)) (F0 m 314 ls [.int y0]) := by
  obtain ⟨⟨hx, hb, hml, hown, hts⟩, hr, hlk, hK⟩ := id X
  replace hf : (if (rmI x7 4) = 0 then (f6_acts_357 K279 x2 x6 x7 108 mu) else (if (rmI x7 4) = 1 then (f6_acts_357 K279 x2 x6 x7 114 mu) else (if (rmI x7 4) = 2 then (f6_acts_357 K279 x2 x6 x7 116 mu) else (f6_acts_357 K279 x2 x6 x7 109 mu)))) = some t := hf
  refine lv_istore (lv' := [(5, .int y0), (0, .ref (ad 150)), (2, .int x2), (6, .int x6), (7, .int x7)]) hx hb dL_acts_314 hl (by decide) rfl (fun ls hl => ?_)
  refine lv_aload_n hx hb dL_acts_316 rfl (lv_at hl 1 rfl) ?_
  refine lv_iload hx hb dL_acts_317 (lv_at hl 4 rfl) ?_
  refine lv_iconst (v := 4) hx hb dL_acts_319 (by decide) ?_
  refine hr_irem hx hb dL_acts_320 (by decide) ?_
  refine lv_if_ne (tgt := 329) hx hb dL_acts_321 (by decide) (fun c1 => ?_) (fun c1 => ?_)
  · have hf := it_f c1 hf
    refine lv_iload hx hb dL_acts_329 (lv_at hl 4 rfl) ?_
    refine lv_iconst (v := 4) hx hb dL_acts_331 (by decide) ?_
    refine hr_irem hx hb dL_acts_332 (by decide) ?_
    refine lv_iconst (v := 1) hx hb dL_acts_333 (by decide) ?_
    refine lv_icmp_ne (tgt := 342) hx hb dL_acts_334 (by decide) (fun c2 => ?_) (fun c2 => ?_)
    · have hf := it_f c2 hf
      refine lv_iload hx hb dL_acts_342 (lv_at hl 4 rfl) ?_
      refine lv_iconst (v := 4) hx hb dL_acts_344 (by decide) ?_
      refine hr_irem hx hb dL_acts_345 (by decide) ?_
      refine lv_iconst (v := 2) hx hb dL_acts_346 (by decide) ?_
      refine lv_icmp_ne (tgt := 355) hx hb dL_acts_347 (by decide) (fun c3 => ?_) (fun c3 => ?_)
      · have hf := it_f c3 hf
        refine lv_bipush (v := 109) hx hb dL_acts_355 (by decide) ?_
        exact w6_acts_357 X hI hl0 hZ (kb := kb) (by omega) (K279 := K279) hK279 hH ⟨by omega, by omega⟩ (lv_sub hl [1, 2, 3, 4] rfl) hf
      · have hf := it_t c3 hf
        refine lv_bipush (v := 116) hx hb dL_acts_350 (by decide) ?_
        refine lv_goto (tgt := 357) hx hb dL_acts_352 (by decide) ?_
        exact w6_acts_357 X hI hl0 hZ (kb := kb) (by omega) (K279 := K279) hK279 hH ⟨by omega, by omega⟩ (lv_sub hl [1, 2, 3, 4] rfl) hf
    · have hf := it_t c2 hf
      refine lv_bipush (v := 114) hx hb dL_acts_337 (by decide) ?_
      refine lv_goto (tgt := 357) hx hb dL_acts_339 (by decide) ?_
      exact w6_acts_357 X hI hl0 hZ (kb := kb) (by omega) (K279 := K279) hK279 hH ⟨by omega, by omega⟩ (lv_sub hl [1, 2, 3, 4] rfl) hf
  · have hf := it_t c1 hf
    refine lv_bipush (v := 108) hx hb dL_acts_324 (by decide) ?_
    refine lv_goto (tgt := 357) hx hb dL_acts_326 (by decide) ?_
    exact w6_acts_357 X hI hl0 hZ (kb := kb) (by omega) (K279 := K279) hK279 hH ⟨by omega, by omega⟩ (lv_sub hl [1, 2, 3, 4] rfl) hf
def f6_acts_279 : Nat → Int32 → Int32 → Int32 → (Nat → Nat → Int32) → Option (Int32 × (Nat → Nat → Int32))
  | 0, _, _, _, _ => none
  | n + 1, x2, x5, x6, mu => if (1 + (rmI x2 4)) ≤ x6 then (if x5 < 1 then (f6_acts_482 mu) else (Option.bind (f4_firstError_0 mu) (fun t3 => if t3 = x5 then (Option.bind (f6_execute_0 mu) (fun t5 => f6_acts_491 t5.1 t5.2)) else (f6_acts_482 mu)))) else (if x6 ≤ 0 then (f6_acts_314 (f6_acts_279 n) x2 x6 ((x2 / 4) >>> ((5 * x6) &&& 31)) 0 mu) else (Option.bind (f6_append_0 59 mu) (fun t7 => f6_acts_314 (f6_acts_279 n) x2 x6 ((x2 / 4) >>> ((5 * x6) &&& 31)) t7.1 t7.2)))
set_option maxRecDepth 100000 in
set_option maxHeartbeats 4000000 in
theorem w6_acts_279 {p : Program} {l : Launch} {e : Env} {s : State} {m : MethodId} {args : Array Value} {below : List Frame} {meth : Method} {c : Code} {D : va_G} {Y : cYt} {ad : Nat → Nat} (X : cX D Y p s m args meth c cL_acts 8 RL (some .int)) (hI : cInj ad) (hl0 : l.stackTraces = false) (hZ : lZ ad s.heap.size s)  {t : Int32 × (Nat → Nat → Int32)} :
    ∀ (n : Nat) (x2 : Int32) (x5 : Int32) (x6 : Int32) (mu : Nat → Nat → Int32) (H : Heap) (locs : List Loc) (cells slots : Nat), cH D Y ad mu s H locs → cells + 3 * (n * 5 + 0) ≤ 153 ∧ slots + 18 * (n * 5 + 0) ≤ 918 → ∀ (ls : Array Slot), lv_has ls 8 [(0, .ref (ad 150)), (2, .int x2), (5, .int x5), (6, .int x6)] → f6_acts_279 n x2 x5 x6 mu = some t → W p l e rm6_acts s m args below meth c H locs cells slots (MQ below (va_Qi (fun (r9 : Int32) (_ : Unit) => r9 = t.1) (fun _ t9 => cB D Y ad t.2 t9) (cA ad s.heap.size)) args s 153 918 (cA ad s.heap.size)) (F0 m 279 ls []) := by
  obtain ⟨⟨hx, hb, hml, hown, hts⟩, hr, hlk, hK⟩ := id X
  intro n
  induction n with
  | zero =>
    intro x2 x5 x6 mu H locs cells slots hH hc ls hl hf
    cases hf
  | succ n ih =>
    intro x2 x5 x6 mu H locs cells slots hH hc ls hl hf
    replace hf : (if (1 + (rmI x2 4)) ≤ x6 then (if x5 < 1 then (f6_acts_482 mu) else (Option.bind (f4_firstError_0 mu) (fun t3 => if t3 = x5 then (Option.bind (f6_execute_0 mu) (fun t5 => f6_acts_491 t5.1 t5.2)) else (f6_acts_482 mu)))) else (if x6 ≤ 0 then (f6_acts_314 (f6_acts_279 n) x2 x6 ((x2 / 4) >>> ((5 * x6) &&& 31)) 0 mu) else (Option.bind (f6_append_0 59 mu) (fun t7 => f6_acts_314 (f6_acts_279 n) x2 x6 ((x2 / 4) >>> ((5 * x6) &&& 31)) t7.1 t7.2)))) = some t := hf
    refine lv_iload hx hb dL_acts_279 (lv_at hl 3 rfl) ?_
    refine lv_iconst (v := 1) hx hb dL_acts_281 (by decide) ?_
    refine lv_iload_n hx hb dL_acts_282 rfl (lv_at hl 1 rfl) ?_
    refine lv_iconst (v := 4) hx hb dL_acts_283 (by decide) ?_
    refine hr_irem hx hb dL_acts_284 (by decide) ?_
    refine lv_iadd hx hb dL_acts_285 ?_
    refine lv_icmp_ge (tgt := 467) hx hb dL_acts_286 (by decide) (fun c1 => ?_) (fun c1 => ?_)
    · have hf := it_t c1 hf
      refine lv_iload hx hb dL_acts_467 (lv_at hl 2 rfl) ?_
      refine lv_iconst (v := 1) hx hb dL_acts_469 (by decide) ?_
      refine lv_icmp_lt (tgt := 482) hx hb dL_acts_470 (by decide) (fun c2 => ?_) (fun c2 => ?_)
      · have hf := it_t c2 hf
        exact w6_acts_482 X hI hl0 hZ hH ⟨by omega, by omega⟩ (lv_sub hl [] rfl) hf
      · have hf := it_f c2 hf
        refine lv_aload_n hx hb dL_acts_473 rfl (lv_at hl 0 rfl) ?_
        obtain ⟨t3, ht3, hf⟩ := bd_o hf
        refine k4_firstError X hH.1 hl.1 qL_125 ⟨Nat.le_of_ble_eq_true rfl, Nat.le_of_ble_eq_true rfl⟩ ht3 (Nat.le_of_ble_eq_true rfl) dL_acts_474 (kc6 (MC := 153) (MS := 918) ⟨rfl, rfl⟩ ⟨by omega, by omega⟩) ?_
        refine lv_iload hx hb dL_acts_477 (lv_at hl 2 rfl) ?_
        refine lv_icmp_eq (tgt := 487) hx hb dL_acts_479 (by decide) (fun c4 => ?_) (fun c4 => ?_)
        · have hf := it_t c4 hf
          refine lv_aload_n hx hb dL_acts_487 rfl (lv_at hl 0 rfl) ?_
          obtain ⟨t5, ht5, hf⟩ := bd_o hf
          refine kh (MC := 153) (MS := 918) (As := [.ref (ad 150)]) (rest := []) ⟨rfl, rfl⟩ X hZ hH (h6_execute l hI hl0 _  ht5) (vx_cwSW 1 hts qL_128 rfl rfl rfl (by decide +kernel) ⟨Nat.le_of_ble_eq_true rfl, Nat.le_of_ble_eq_true rfl⟩) rfl hl.1 rfl (Nat.le_of_ble_eq_true rfl) dL_acts_488 ⟨by omega, by omega⟩ (fun H locs hH => ?_)
          exact w6_acts_491 X hI hl0 hZ hH ⟨by omega, by omega⟩ (lv_sub hl [] rfl) hf
        · have hf := it_f c4 hf
          exact w6_acts_482 X hI hl0 hZ hH ⟨by omega, by omega⟩ (lv_sub hl [] rfl) hf
    · have hf := it_f c1 hf
      refine lv_iload_n hx hb dL_acts_289 rfl (lv_at hl 1 rfl) ?_
      refine lv_iconst (v := 4) hx hb dL_acts_290 (by decide) ?_
      refine lv_idiv hx hb dL_acts_291 (by decide) ?_
      refine lv_iconst (v := 5) hx hb dL_acts_292 (by decide) ?_
      refine lv_iload hx hb dL_acts_293 (lv_at hl 3 rfl) ?_
      refine lv_imul hx hb dL_acts_295 ?_
      refine lv_ishr hx hb dL_acts_296 ?_
      refine lv_istore (lv' := [(7, .int ((x2 / 4) >>> ((5 * x6) &&& 31))), (0, .ref (ad 150)), (2, .int x2), (5, .int x5), (6, .int x6)]) hx hb dL_acts_297 hl (by decide) rfl (fun ls hl => ?_)
      refine lv_iload hx hb dL_acts_299 (lv_at hl 4 rfl) ?_
      refine lv_if_le (tgt := 313) hx hb dL_acts_301 (by decide) (fun c6 => ?_) (fun c6 => ?_)
      · have hf := it_t c6 hf
        refine lv_iconst (v := 0) hx hb dL_acts_313 (by decide) ?_
        exact w6_acts_314 X hI hl0 hZ (kb := n * 5 + 0) (by omega) (K279 := (f6_acts_279 n)) ih hH ⟨by omega, by omega⟩ (lv_sub hl [1, 2, 4, 0] rfl) hf
      · have hf := it_f c6 hf
        refine lv_aload_n hx hb dL_acts_304 rfl (lv_at hl 1 rfl) ?_
        refine lv_bipush (v := 59) hx hb dL_acts_305 (by decide) ?_
        obtain ⟨t7, ht7, hf⟩ := bd_o hf
        refine kh (MC := 153) (MS := 918) (As := [.ref (ad 150), .int 59]) (rest := []) ⟨rfl, rfl⟩ X hZ hH (h6_append l hI hl0 _ 59 ht7) (vx_cwSW 2 hts qL_123 rfl rfl rfl (by decide +kernel) ⟨Nat.le_of_ble_eq_true rfl, Nat.le_of_ble_eq_true rfl⟩) rfl hl.1 rfl (Nat.le_of_ble_eq_true rfl) dL_acts_307 ⟨by omega, by omega⟩ (fun H locs hH => ?_)
        refine lv_goto (tgt := 314) hx hb dL_acts_310 (by decide) ?_
        exact w6_acts_314 X hI hl0 hZ (kb := n * 5 + 0) (by omega) (K279 := (f6_acts_279 n)) ih hH ⟨by omega, by omega⟩ (lv_sub hl [1, 2, 4, 0] rfl) hf
def f6_acts_38 (x2 : Int32) (x4 : Int32) (y0 : Int32) (mu : Nat → Nat → Int32) : Option (Int32 × (Nat → Nat → Int32)) := if y0 = 0 then (Option.bind (f6_car_0 mu) (fun t2 => some (t2.1, t2.2))) else (if y0 = 1 then (Option.bind (f6_grade_0 (rmI x2 30) (rmI (x2 / 32) 10) mu) (fun t4 => some (t4.1, t4.2))) else (if y0 = 2 then (Option.bind (f6_grade_0 (rmI x2 30) (rmI (x2 / 32) 10) mu) (fun t6 => some (t6.1, t6.2))) else (if y0 = 3 then (Option.bind (f6_spring_0 (1 + (rmI x2 29)) (rmI (x2 / 32) 41) mu) (fun t8 => some (t8.1, t8.2))) else (if y0 = 4 then (Option.bind (f6_load_0 x4 (1 + (rmI (x2 / 8) 15)) mu) (fun t10 => some (t10.1, t10.2))) else (if y0 = 5 then (Option.bind (f6_load_0 x4 (1 + (rmI (x2 / 8) 15)) mu) (fun t12 => some (t12.1, t12.2))) else (if y0 = 6 then (Option.bind (f6_load_0 x4 (1 + (rmI (x2 / 8) 15)) mu) (fun t14 => some (t14.1, t14.2))) else (if y0 = 7 then (Option.bind (f6_release_0 x4 (rmI (x2 / 8) 10) mu) (fun t16 => some (t16.1, t16.2))) else (if y0 = 8 then (Option.bind (f6_release_0 x4 (rmI (x2 / 8) 10) mu) (fun t18 => some (t18.1, t18.2))) else (if y0 = 9 then (Option.bind (f6_release_0 x4 (rmI (x2 / 8) 10) mu) (fun t20 => some (t20.1, t20.2))) else (if y0 = 10 then (Option.bind (f6_release_0 x4 (rmI (x2 / 8) 10) mu) (fun t22 => some (t22.1, t22.2))) else (if y0 = 11 then (Option.bind (f6_brake_0 x4 (rmI (x2 / 8) 10) mu) (fun t24 => some (t24.1, t24.2))) else (if y0 = 12 then (Option.bind (f6_brake_0 x4 (rmI (x2 / 8) 10) mu) (fun t26 => some (t26.1, t26.2))) else (if y0 = 13 then (Option.bind (f6_pull_0 x4 mu) (fun t28 => some (t28.1, t28.2))) else (if y0 = 14 then (Option.bind (f6_pull_0 x4 mu) (fun t30 => some (t30.1, t30.2))) else (if y0 = 15 then (Option.bind (f6_set_0 (rmI x2 3) (1 + (rmI (x2 / 4) 4)) mu) (fun t32 => some (t32.1, t32.2))) else (if y0 = 16 then (Option.bind (f6_undo_0 mu) (fun t34 => some (t34.1, t34.2))) else (if y0 = 17 then (Option.bind (f6_undo_0 mu) (fun t36 => some (t36.1, t36.2))) else (if y0 = 18 then (Option.bind (f6_keep_0 (rmI x2 2) mu) (fun t38 => some (t38.1, t38.2))) else (if y0 = 19 then (Option.bind (f6_goBack_0 (rmI x2 2) mu) (fun t40 => some (t40.1, t40.2))) else (if y0 = 20 then (Option.bind (f4_clearBuffer_0 mu) (fun t42 => f6_acts_279 10 x2 t42.1 0 t42.2)) else (if y0 = 21 then (Option.bind (f4_clearBuffer_0 mu) (fun t44 => f6_acts_279 10 x2 t44.1 0 t44.2)) else (if y0 = 22 then (Option.bind (f4_clearBuffer_0 mu) (fun t46 => f6_acts_279 10 x2 t46.1 0 t46.2)) else (if (rmI x2 3) = 0 then (f6_acts_508 60 x2 1 mu) else (f6_acts_508 10 x2 1 mu))))))))))))))))))))))))
set_option maxRecDepth 100000 in
set_option maxHeartbeats 4000000 in
theorem w6_acts_38 {p : Program} {l : Launch} {e : Env} {s : State} {m : MethodId} {args : Array Value} {below : List Frame} {meth : Method} {c : Code} {D : va_G} {Y : cYt} {ad : Nat → Nat} {mu : Nat → Nat → Int32} (X : cX D Y p s m args meth c cL_acts 8 RL (some .int)) (hI : cInj ad) (hl0 : l.stackTraces = false) (hZ : lZ ad s.heap.size s)  {x2 : Int32} {x4 : Int32} {y0 : Int32} {t : Int32 × (Nat → Nat → Int32)} {H : Heap} {locs : List Loc} (hH : cH D Y ad mu s H locs) {cells slots : Nat} (hc : cells + 3 * (50) ≤ 153 ∧ slots + 18 * (50) ≤ 918) {ls : Array Slot} (hl : lv_has ls 8 [(0, .ref (ad 150)), (2, .int x2), (4, .int x4)]) (hf : f6_acts_38 x2 x4 y0 mu = some t) : W p l e rm6_acts s m args below meth c H locs cells slots (MQ below (va_Qi (fun (r9 : Int32) (_ : Unit) => r9 = t.1) (fun _ t9 => cB D Y ad t.2 t9) (cA ad s.heap.size)) args s 153 918 (cA ad s.heap.size)) (F0 m 38 ls [.int y0]) := by
  obtain ⟨⟨hx, hb, hml, hown, hts⟩, hr, hlk, hK⟩ := id X
  replace hf : (if y0 = 0 then (Option.bind (f6_car_0 mu) (fun t2 => some (t2.1, t2.2))) else (if y0 = 1 then (Option.bind (f6_grade_0 (rmI x2 30) (rmI (x2 / 32) 10) mu) (fun t4 => some (t4.1, t4.2))) else (if y0 = 2 then (Option.bind (f6_grade_0 (rmI x2 30) (rmI (x2 / 32) 10) mu) (fun t6 => some (t6.1, t6.2))) else (if y0 = 3 then (Option.bind (f6_spring_0 (1 + (rmI x2 29)) (rmI (x2 / 32) 41) mu) (fun t8 => some (t8.1, t8.2))) else (if y0 = 4 then (Option.bind (f6_load_0 x4 (1 + (rmI (x2 / 8) 15)) mu) (fun t10 => some (t10.1, t10.2))) else (if y0 = 5 then (Option.bind (f6_load_0 x4 (1 + (rmI (x2 / 8) 15)) mu) (fun t12 => some (t12.1, t12.2))) else (if y0 = 6 then (Option.bind (f6_load_0 x4 (1 + (rmI (x2 / 8) 15)) mu) (fun t14 => some (t14.1, t14.2))) else (if y0 = 7 then (Option.bind (f6_release_0 x4 (rmI (x2 / 8) 10) mu) (fun t16 => some (t16.1, t16.2))) else (if y0 = 8 then (Option.bind (f6_release_0 x4 (rmI (x2 / 8) 10) mu) (fun t18 => some (t18.1, t18.2))) else (if y0 = 9 then (Option.bind (f6_release_0 x4 (rmI (x2 / 8) 10) mu) (fun t20 => some (t20.1, t20.2))) else (if y0 = 10 then (Option.bind (f6_release_0 x4 (rmI (x2 / 8) 10) mu) (fun t22 => some (t22.1, t22.2))) else (if y0 = 11 then (Option.bind (f6_brake_0 x4 (rmI (x2 / 8) 10) mu) (fun t24 => some (t24.1, t24.2))) else (if y0 = 12 then (Option.bind (f6_brake_0 x4 (rmI (x2 / 8) 10) mu) (fun t26 => some (t26.1, t26.2))) else (if y0 = 13 then (Option.bind (f6_pull_0 x4 mu) (fun t28 => some (t28.1, t28.2))) else (if y0 = 14 then (Option.bind (f6_pull_0 x4 mu) (fun t30 => some (t30.1, t30.2))) else (if y0 = 15 then (Option.bind (f6_set_0 (rmI x2 3) (1 + (rmI (x2 / 4) 4)) mu) (fun t32 => some (t32.1, t32.2))) else (if y0 = 16 then (Option.bind (f6_undo_0 mu) (fun t34 => some (t34.1, t34.2))) else (if y0 = 17 then (Option.bind (f6_undo_0 mu) (fun t36 => some (t36.1, t36.2))) else (if y0 = 18 then (Option.bind (f6_keep_0 (rmI x2 2) mu) (fun t38 => some (t38.1, t38.2))) else (if y0 = 19 then (Option.bind (f6_goBack_0 (rmI x2 2) mu) (fun t40 => some (t40.1, t40.2))) else (if y0 = 20 then (Option.bind (f4_clearBuffer_0 mu) (fun t42 => f6_acts_279 10 x2 t42.1 0 t42.2)) else (if y0 = 21 then (Option.bind (f4_clearBuffer_0 mu) (fun t44 => f6_acts_279 10 x2 t44.1 0 t44.2)) else (if y0 = 22 then (Option.bind (f4_clearBuffer_0 mu) (fun t46 => f6_acts_279 10 x2 t46.1 0 t46.2)) else (if (rmI x2 3) = 0 then (f6_acts_508 60 x2 1 mu) else (f6_acts_508 10 x2 1 mu))))))))))))))))))))))))) = some t := hf
  by_cases c1 : y0 = 0
  · have hf := it_t c1 hf
    refine lv_tableIn (off := 106) (tgt := 144) hx hb dL_acts_38 (by rw [c1]; decide) (by rw [c1]; decide) (by rw [c1]; rfl) (by decide) ?_
    refine lv_aload_n hx hb dL_acts_144 rfl (lv_at hl 0 rfl) ?_
    obtain ⟨t2, ht2, hf⟩ := bd_o hf
    refine kh (MC := 153) (MS := 918) (As := [.ref (ad 150)]) (rest := []) ⟨rfl, rfl⟩ X hZ hH (h6_car l hI hl0 _  ht2) (vx_cwSW 1 hts qL_96 rfl rfl rfl (by decide +kernel) ⟨Nat.le_of_ble_eq_true rfl, Nat.le_of_ble_eq_true rfl⟩) rfl hl.1 rfl (Nat.le_of_ble_eq_true rfl) dL_acts_145 ⟨by omega, by omega⟩ (fun H locs hH => ?_)
    obtain rfl := so_i hf
    exact e6_i X hH rfl (by omega) (by omega) dL_acts_148
  · have hf := it_f c1 hf
    by_cases c3 : y0 = 1
    · have hf := it_t c3 hf
      refine lv_tableIn (off := 111) (tgt := 149) hx hb dL_acts_38 (by rw [c3]; decide) (by rw [c3]; decide) (by rw [c3]; rfl) (by decide) ?_
      refine lv_aload_n hx hb dL_acts_149 rfl (lv_at hl 0 rfl) ?_
      refine lv_iload_n hx hb dL_acts_150 rfl (lv_at hl 1 rfl) ?_
      refine lv_bipush (v := 30) hx hb dL_acts_151 (by decide) ?_
      refine hr_irem hx hb dL_acts_153 (by decide) ?_
      refine lv_iload_n hx hb dL_acts_154 rfl (lv_at hl 1 rfl) ?_
      refine lv_bipush (v := 32) hx hb dL_acts_155 (by decide) ?_
      refine lv_idiv hx hb dL_acts_157 (by decide) ?_
      refine lv_bipush (v := 10) hx hb dL_acts_158 (by decide) ?_
      refine hr_irem hx hb dL_acts_160 (by decide) ?_
      obtain ⟨t4, ht4, hf⟩ := bd_o hf
      refine kh (MC := 153) (MS := 918) (As := [.ref (ad 150), .int (rmI x2 30), .int (rmI (x2 / 32) 10)]) (rest := []) ⟨rfl, rfl⟩ X hZ hH (h6_grade l hI hl0 _ (rmI x2 30) (rmI (x2 / 32) 10) ht4) (vx_cwSW 3 hts qL_99 rfl rfl rfl (by decide +kernel) ⟨Nat.le_of_ble_eq_true rfl, Nat.le_of_ble_eq_true rfl⟩) rfl hl.1 rfl (Nat.le_of_ble_eq_true rfl) dL_acts_161 ⟨by omega, by omega⟩ (fun H locs hH => ?_)
      obtain rfl := so_i hf
      exact e6_i X hH rfl (by omega) (by omega) dL_acts_164
    · have hf := it_f c3 hf
      by_cases c5 : y0 = 2
      · have hf := it_t c5 hf
        refine lv_tableIn (off := 111) (tgt := 149) hx hb dL_acts_38 (by rw [c5]; decide) (by rw [c5]; decide) (by rw [c5]; rfl) (by decide) ?_
        refine lv_aload_n hx hb dL_acts_149 rfl (lv_at hl 0 rfl) ?_
        refine lv_iload_n hx hb dL_acts_150 rfl (lv_at hl 1 rfl) ?_
        refine lv_bipush (v := 30) hx hb dL_acts_151 (by decide) ?_
        refine hr_irem hx hb dL_acts_153 (by decide) ?_
        refine lv_iload_n hx hb dL_acts_154 rfl (lv_at hl 1 rfl) ?_
        refine lv_bipush (v := 32) hx hb dL_acts_155 (by decide) ?_
        refine lv_idiv hx hb dL_acts_157 (by decide) ?_
        refine lv_bipush (v := 10) hx hb dL_acts_158 (by decide) ?_
        refine hr_irem hx hb dL_acts_160 (by decide) ?_
        obtain ⟨t6, ht6, hf⟩ := bd_o hf
        refine kh (MC := 153) (MS := 918) (As := [.ref (ad 150), .int (rmI x2 30), .int (rmI (x2 / 32) 10)]) (rest := []) ⟨rfl, rfl⟩ X hZ hH (h6_grade l hI hl0 _ (rmI x2 30) (rmI (x2 / 32) 10) ht6) (vx_cwSW 3 hts qL_99 rfl rfl rfl (by decide +kernel) ⟨Nat.le_of_ble_eq_true rfl, Nat.le_of_ble_eq_true rfl⟩) rfl hl.1 rfl (Nat.le_of_ble_eq_true rfl) dL_acts_161 ⟨by omega, by omega⟩ (fun H locs hH => ?_)
        obtain rfl := so_i hf
        exact e6_i X hH rfl (by omega) (by omega) dL_acts_164
      · have hf := it_f c5 hf
        by_cases c7 : y0 = 3
        · have hf := it_t c7 hf
          refine lv_tableIn (off := 127) (tgt := 165) hx hb dL_acts_38 (by rw [c7]; decide) (by rw [c7]; decide) (by rw [c7]; rfl) (by decide) ?_
          refine lv_aload_n hx hb dL_acts_165 rfl (lv_at hl 0 rfl) ?_
          refine lv_iconst (v := 1) hx hb dL_acts_166 (by decide) ?_
          refine lv_iload_n hx hb dL_acts_167 rfl (lv_at hl 1 rfl) ?_
          refine lv_bipush (v := 29) hx hb dL_acts_168 (by decide) ?_
          refine hr_irem hx hb dL_acts_170 (by decide) ?_
          refine lv_iadd hx hb dL_acts_171 ?_
          refine lv_iload_n hx hb dL_acts_172 rfl (lv_at hl 1 rfl) ?_
          refine lv_bipush (v := 32) hx hb dL_acts_173 (by decide) ?_
          refine lv_idiv hx hb dL_acts_175 (by decide) ?_
          refine lv_bipush (v := 41) hx hb dL_acts_176 (by decide) ?_
          refine hr_irem hx hb dL_acts_178 (by decide) ?_
          obtain ⟨t8, ht8, hf⟩ := bd_o hf
          refine kh (MC := 153) (MS := 918) (As := [.ref (ad 150), .int (1 + (rmI x2 29)), .int (rmI (x2 / 32) 41)]) (rest := []) ⟨rfl, rfl⟩ X hZ hH (h6_spring l hI hl0 _ (1 + (rmI x2 29)) (rmI (x2 / 32) 41) ht8) (vx_cwSW 3 hts qL_102 rfl rfl rfl (by decide +kernel) ⟨Nat.le_of_ble_eq_true rfl, Nat.le_of_ble_eq_true rfl⟩) rfl hl.1 rfl (Nat.le_of_ble_eq_true rfl) dL_acts_179 ⟨by omega, by omega⟩ (fun H locs hH => ?_)
          obtain rfl := so_i hf
          exact e6_i X hH rfl (by omega) (by omega) dL_acts_182
        · have hf := it_f c7 hf
          by_cases c9 : y0 = 4
          · have hf := it_t c9 hf
            refine lv_tableIn (off := 145) (tgt := 183) hx hb dL_acts_38 (by rw [c9]; decide) (by rw [c9]; decide) (by rw [c9]; rfl) (by decide) ?_
            refine lv_aload_n hx hb dL_acts_183 rfl (lv_at hl 0 rfl) ?_
            refine lv_iload hx hb dL_acts_184 (lv_at hl 2 rfl) ?_
            refine lv_iconst (v := 1) hx hb dL_acts_186 (by decide) ?_
            refine lv_iload_n hx hb dL_acts_187 rfl (lv_at hl 1 rfl) ?_
            refine lv_bipush (v := 8) hx hb dL_acts_188 (by decide) ?_
            refine lv_idiv hx hb dL_acts_190 (by decide) ?_
            refine lv_bipush (v := 15) hx hb dL_acts_191 (by decide) ?_
            refine hr_irem hx hb dL_acts_193 (by decide) ?_
            refine lv_iadd hx hb dL_acts_194 ?_
            obtain ⟨t10, ht10, hf⟩ := bd_o hf
            refine kh (MC := 153) (MS := 918) (As := [.ref (ad 150), .int x4, .int (1 + (rmI (x2 / 8) 15))]) (rest := []) ⟨rfl, rfl⟩ X hZ hH (h6_load l hI hl0 _ x4 (1 + (rmI (x2 / 8) 15)) ht10) (vx_cwSW 3 hts qL_104 rfl rfl rfl (by decide +kernel) ⟨Nat.le_of_ble_eq_true rfl, Nat.le_of_ble_eq_true rfl⟩) rfl hl.1 rfl (Nat.le_of_ble_eq_true rfl) dL_acts_195 ⟨by omega, by omega⟩ (fun H locs hH => ?_)
            obtain rfl := so_i hf
            exact e6_i X hH rfl (by omega) (by omega) dL_acts_198
          · have hf := it_f c9 hf
            by_cases c11 : y0 = 5
            · have hf := it_t c11 hf
              refine lv_tableIn (off := 145) (tgt := 183) hx hb dL_acts_38 (by rw [c11]; decide) (by rw [c11]; decide) (by rw [c11]; rfl) (by decide) ?_
              refine lv_aload_n hx hb dL_acts_183 rfl (lv_at hl 0 rfl) ?_
              refine lv_iload hx hb dL_acts_184 (lv_at hl 2 rfl) ?_
              refine lv_iconst (v := 1) hx hb dL_acts_186 (by decide) ?_
              refine lv_iload_n hx hb dL_acts_187 rfl (lv_at hl 1 rfl) ?_
              refine lv_bipush (v := 8) hx hb dL_acts_188 (by decide) ?_
              refine lv_idiv hx hb dL_acts_190 (by decide) ?_
              refine lv_bipush (v := 15) hx hb dL_acts_191 (by decide) ?_
              refine hr_irem hx hb dL_acts_193 (by decide) ?_
              refine lv_iadd hx hb dL_acts_194 ?_
              obtain ⟨t12, ht12, hf⟩ := bd_o hf
              refine kh (MC := 153) (MS := 918) (As := [.ref (ad 150), .int x4, .int (1 + (rmI (x2 / 8) 15))]) (rest := []) ⟨rfl, rfl⟩ X hZ hH (h6_load l hI hl0 _ x4 (1 + (rmI (x2 / 8) 15)) ht12) (vx_cwSW 3 hts qL_104 rfl rfl rfl (by decide +kernel) ⟨Nat.le_of_ble_eq_true rfl, Nat.le_of_ble_eq_true rfl⟩) rfl hl.1 rfl (Nat.le_of_ble_eq_true rfl) dL_acts_195 ⟨by omega, by omega⟩ (fun H locs hH => ?_)
              obtain rfl := so_i hf
              exact e6_i X hH rfl (by omega) (by omega) dL_acts_198
            · have hf := it_f c11 hf
              by_cases c13 : y0 = 6
              · have hf := it_t c13 hf
                refine lv_tableIn (off := 145) (tgt := 183) hx hb dL_acts_38 (by rw [c13]; decide) (by rw [c13]; decide) (by rw [c13]; rfl) (by decide) ?_
                refine lv_aload_n hx hb dL_acts_183 rfl (lv_at hl 0 rfl) ?_
                refine lv_iload hx hb dL_acts_184 (lv_at hl 2 rfl) ?_
                refine lv_iconst (v := 1) hx hb dL_acts_186 (by decide) ?_
                refine lv_iload_n hx hb dL_acts_187 rfl (lv_at hl 1 rfl) ?_
                refine lv_bipush (v := 8) hx hb dL_acts_188 (by decide) ?_
                refine lv_idiv hx hb dL_acts_190 (by decide) ?_
                refine lv_bipush (v := 15) hx hb dL_acts_191 (by decide) ?_
                refine hr_irem hx hb dL_acts_193 (by decide) ?_
                refine lv_iadd hx hb dL_acts_194 ?_
                obtain ⟨t14, ht14, hf⟩ := bd_o hf
                refine kh (MC := 153) (MS := 918) (As := [.ref (ad 150), .int x4, .int (1 + (rmI (x2 / 8) 15))]) (rest := []) ⟨rfl, rfl⟩ X hZ hH (h6_load l hI hl0 _ x4 (1 + (rmI (x2 / 8) 15)) ht14) (vx_cwSW 3 hts qL_104 rfl rfl rfl (by decide +kernel) ⟨Nat.le_of_ble_eq_true rfl, Nat.le_of_ble_eq_true rfl⟩) rfl hl.1 rfl (Nat.le_of_ble_eq_true rfl) dL_acts_195 ⟨by omega, by omega⟩ (fun H locs hH => ?_)
                obtain rfl := so_i hf
                exact e6_i X hH rfl (by omega) (by omega) dL_acts_198
              · have hf := it_f c13 hf
                by_cases c15 : y0 = 7
                · have hf := it_t c15 hf
                  refine lv_tableIn (off := 161) (tgt := 199) hx hb dL_acts_38 (by rw [c15]; decide) (by rw [c15]; decide) (by rw [c15]; rfl) (by decide) ?_
                  refine lv_aload_n hx hb dL_acts_199 rfl (lv_at hl 0 rfl) ?_
                  refine lv_iload hx hb dL_acts_200 (lv_at hl 2 rfl) ?_
                  refine lv_iload_n hx hb dL_acts_202 rfl (lv_at hl 1 rfl) ?_
                  refine lv_bipush (v := 8) hx hb dL_acts_203 (by decide) ?_
                  refine lv_idiv hx hb dL_acts_205 (by decide) ?_
                  refine lv_bipush (v := 10) hx hb dL_acts_206 (by decide) ?_
                  refine hr_irem hx hb dL_acts_208 (by decide) ?_
                  obtain ⟨t16, ht16, hf⟩ := bd_o hf
                  refine kh (MC := 153) (MS := 918) (As := [.ref (ad 150), .int x4, .int (rmI (x2 / 8) 10)]) (rest := []) ⟨rfl, rfl⟩ X hZ hH (h6_release l hI hl0 _ x4 (rmI (x2 / 8) 10) ht16) (vx_cwSW 3 hts qL_106 rfl rfl rfl (by decide +kernel) ⟨Nat.le_of_ble_eq_true rfl, Nat.le_of_ble_eq_true rfl⟩) rfl hl.1 rfl (Nat.le_of_ble_eq_true rfl) dL_acts_209 ⟨by omega, by omega⟩ (fun H locs hH => ?_)
                  obtain rfl := so_i hf
                  exact e6_i X hH rfl (by omega) (by omega) dL_acts_212
                · have hf := it_f c15 hf
                  by_cases c17 : y0 = 8
                  · have hf := it_t c17 hf
                    refine lv_tableIn (off := 161) (tgt := 199) hx hb dL_acts_38 (by rw [c17]; decide) (by rw [c17]; decide) (by rw [c17]; rfl) (by decide) ?_
                    refine lv_aload_n hx hb dL_acts_199 rfl (lv_at hl 0 rfl) ?_
                    refine lv_iload hx hb dL_acts_200 (lv_at hl 2 rfl) ?_
                    refine lv_iload_n hx hb dL_acts_202 rfl (lv_at hl 1 rfl) ?_
                    refine lv_bipush (v := 8) hx hb dL_acts_203 (by decide) ?_
                    refine lv_idiv hx hb dL_acts_205 (by decide) ?_
                    refine lv_bipush (v := 10) hx hb dL_acts_206 (by decide) ?_
                    refine hr_irem hx hb dL_acts_208 (by decide) ?_
                    obtain ⟨t18, ht18, hf⟩ := bd_o hf
                    refine kh (MC := 153) (MS := 918) (As := [.ref (ad 150), .int x4, .int (rmI (x2 / 8) 10)]) (rest := []) ⟨rfl, rfl⟩ X hZ hH (h6_release l hI hl0 _ x4 (rmI (x2 / 8) 10) ht18) (vx_cwSW 3 hts qL_106 rfl rfl rfl (by decide +kernel) ⟨Nat.le_of_ble_eq_true rfl, Nat.le_of_ble_eq_true rfl⟩) rfl hl.1 rfl (Nat.le_of_ble_eq_true rfl) dL_acts_209 ⟨by omega, by omega⟩ (fun H locs hH => ?_)
                    obtain rfl := so_i hf
                    exact e6_i X hH rfl (by omega) (by omega) dL_acts_212
                  · have hf := it_f c17 hf
                    by_cases c19 : y0 = 9
                    · have hf := it_t c19 hf
                      refine lv_tableIn (off := 161) (tgt := 199) hx hb dL_acts_38 (by rw [c19]; decide) (by rw [c19]; decide) (by rw [c19]; rfl) (by decide) ?_
                      refine lv_aload_n hx hb dL_acts_199 rfl (lv_at hl 0 rfl) ?_
                      refine lv_iload hx hb dL_acts_200 (lv_at hl 2 rfl) ?_
                      refine lv_iload_n hx hb dL_acts_202 rfl (lv_at hl 1 rfl) ?_
                      refine lv_bipush (v := 8) hx hb dL_acts_203 (by decide) ?_
                      refine lv_idiv hx hb dL_acts_205 (by decide) ?_
                      refine lv_bipush (v := 10) hx hb dL_acts_206 (by decide) ?_
                      refine hr_irem hx hb dL_acts_208 (by decide) ?_
                      obtain ⟨t20, ht20, hf⟩ := bd_o hf
                      refine kh (MC := 153) (MS := 918) (As := [.ref (ad 150), .int x4, .int (rmI (x2 / 8) 10)]) (rest := []) ⟨rfl, rfl⟩ X hZ hH (h6_release l hI hl0 _ x4 (rmI (x2 / 8) 10) ht20) (vx_cwSW 3 hts qL_106 rfl rfl rfl (by decide +kernel) ⟨Nat.le_of_ble_eq_true rfl, Nat.le_of_ble_eq_true rfl⟩) rfl hl.1 rfl (Nat.le_of_ble_eq_true rfl) dL_acts_209 ⟨by omega, by omega⟩ (fun H locs hH => ?_)
                      obtain rfl := so_i hf
                      exact e6_i X hH rfl (by omega) (by omega) dL_acts_212
                    · have hf := it_f c19 hf
                      by_cases c21 : y0 = 10
                      · have hf := it_t c21 hf
                        refine lv_tableIn (off := 161) (tgt := 199) hx hb dL_acts_38 (by rw [c21]; decide) (by rw [c21]; decide) (by rw [c21]; rfl) (by decide) ?_
                        refine lv_aload_n hx hb dL_acts_199 rfl (lv_at hl 0 rfl) ?_
                        refine lv_iload hx hb dL_acts_200 (lv_at hl 2 rfl) ?_
                        refine lv_iload_n hx hb dL_acts_202 rfl (lv_at hl 1 rfl) ?_
                        refine lv_bipush (v := 8) hx hb dL_acts_203 (by decide) ?_
                        refine lv_idiv hx hb dL_acts_205 (by decide) ?_
                        refine lv_bipush (v := 10) hx hb dL_acts_206 (by decide) ?_
                        refine hr_irem hx hb dL_acts_208 (by decide) ?_
                        obtain ⟨t22, ht22, hf⟩ := bd_o hf
                        refine kh (MC := 153) (MS := 918) (As := [.ref (ad 150), .int x4, .int (rmI (x2 / 8) 10)]) (rest := []) ⟨rfl, rfl⟩ X hZ hH (h6_release l hI hl0 _ x4 (rmI (x2 / 8) 10) ht22) (vx_cwSW 3 hts qL_106 rfl rfl rfl (by decide +kernel) ⟨Nat.le_of_ble_eq_true rfl, Nat.le_of_ble_eq_true rfl⟩) rfl hl.1 rfl (Nat.le_of_ble_eq_true rfl) dL_acts_209 ⟨by omega, by omega⟩ (fun H locs hH => ?_)
                        obtain rfl := so_i hf
                        exact e6_i X hH rfl (by omega) (by omega) dL_acts_212
                      · have hf := it_f c21 hf
                        by_cases c23 : y0 = 11
                        · have hf := it_t c23 hf
                          refine lv_tableIn (off := 175) (tgt := 213) hx hb dL_acts_38 (by rw [c23]; decide) (by rw [c23]; decide) (by rw [c23]; rfl) (by decide) ?_
                          refine lv_aload_n hx hb dL_acts_213 rfl (lv_at hl 0 rfl) ?_
                          refine lv_iload hx hb dL_acts_214 (lv_at hl 2 rfl) ?_
                          refine lv_iload_n hx hb dL_acts_216 rfl (lv_at hl 1 rfl) ?_
                          refine lv_bipush (v := 8) hx hb dL_acts_217 (by decide) ?_
                          refine lv_idiv hx hb dL_acts_219 (by decide) ?_
                          refine lv_bipush (v := 10) hx hb dL_acts_220 (by decide) ?_
                          refine hr_irem hx hb dL_acts_222 (by decide) ?_
                          obtain ⟨t24, ht24, hf⟩ := bd_o hf
                          refine kh (MC := 153) (MS := 918) (As := [.ref (ad 150), .int x4, .int (rmI (x2 / 8) 10)]) (rest := []) ⟨rfl, rfl⟩ X hZ hH (h6_brake l hI hl0 _ x4 (rmI (x2 / 8) 10) ht24) (vx_cwSW 3 hts qL_108 rfl rfl rfl (by decide +kernel) ⟨Nat.le_of_ble_eq_true rfl, Nat.le_of_ble_eq_true rfl⟩) rfl hl.1 rfl (Nat.le_of_ble_eq_true rfl) dL_acts_223 ⟨by omega, by omega⟩ (fun H locs hH => ?_)
                          obtain rfl := so_i hf
                          exact e6_i X hH rfl (by omega) (by omega) dL_acts_226
                        · have hf := it_f c23 hf
                          by_cases c25 : y0 = 12
                          · have hf := it_t c25 hf
                            refine lv_tableIn (off := 175) (tgt := 213) hx hb dL_acts_38 (by rw [c25]; decide) (by rw [c25]; decide) (by rw [c25]; rfl) (by decide) ?_
                            refine lv_aload_n hx hb dL_acts_213 rfl (lv_at hl 0 rfl) ?_
                            refine lv_iload hx hb dL_acts_214 (lv_at hl 2 rfl) ?_
                            refine lv_iload_n hx hb dL_acts_216 rfl (lv_at hl 1 rfl) ?_
                            refine lv_bipush (v := 8) hx hb dL_acts_217 (by decide) ?_
                            refine lv_idiv hx hb dL_acts_219 (by decide) ?_
                            refine lv_bipush (v := 10) hx hb dL_acts_220 (by decide) ?_
                            refine hr_irem hx hb dL_acts_222 (by decide) ?_
                            obtain ⟨t26, ht26, hf⟩ := bd_o hf
                            refine kh (MC := 153) (MS := 918) (As := [.ref (ad 150), .int x4, .int (rmI (x2 / 8) 10)]) (rest := []) ⟨rfl, rfl⟩ X hZ hH (h6_brake l hI hl0 _ x4 (rmI (x2 / 8) 10) ht26) (vx_cwSW 3 hts qL_108 rfl rfl rfl (by decide +kernel) ⟨Nat.le_of_ble_eq_true rfl, Nat.le_of_ble_eq_true rfl⟩) rfl hl.1 rfl (Nat.le_of_ble_eq_true rfl) dL_acts_223 ⟨by omega, by omega⟩ (fun H locs hH => ?_)
                            obtain rfl := so_i hf
                            exact e6_i X hH rfl (by omega) (by omega) dL_acts_226
                          · have hf := it_f c25 hf
                            by_cases c27 : y0 = 13
                            · have hf := it_t c27 hf
                              refine lv_tableIn (off := 189) (tgt := 227) hx hb dL_acts_38 (by rw [c27]; decide) (by rw [c27]; decide) (by rw [c27]; rfl) (by decide) ?_
                              refine lv_aload_n hx hb dL_acts_227 rfl (lv_at hl 0 rfl) ?_
                              refine lv_iload hx hb dL_acts_228 (lv_at hl 2 rfl) ?_
                              obtain ⟨t28, ht28, hf⟩ := bd_o hf
                              refine kh (MC := 153) (MS := 918) (As := [.ref (ad 150), .int x4]) (rest := []) ⟨rfl, rfl⟩ X hZ hH (h6_pull l hI hl0 _ x4 ht28) (vx_cwSW 2 hts qL_110 rfl rfl rfl (by decide +kernel) ⟨Nat.le_of_ble_eq_true rfl, Nat.le_of_ble_eq_true rfl⟩) rfl hl.1 rfl (Nat.le_of_ble_eq_true rfl) dL_acts_230 ⟨by omega, by omega⟩ (fun H locs hH => ?_)
                              obtain rfl := so_i hf
                              exact e6_i X hH rfl (by omega) (by omega) dL_acts_233
                            · have hf := it_f c27 hf
                              by_cases c29 : y0 = 14
                              · have hf := it_t c29 hf
                                refine lv_tableIn (off := 189) (tgt := 227) hx hb dL_acts_38 (by rw [c29]; decide) (by rw [c29]; decide) (by rw [c29]; rfl) (by decide) ?_
                                refine lv_aload_n hx hb dL_acts_227 rfl (lv_at hl 0 rfl) ?_
                                refine lv_iload hx hb dL_acts_228 (lv_at hl 2 rfl) ?_
                                obtain ⟨t30, ht30, hf⟩ := bd_o hf
                                refine kh (MC := 153) (MS := 918) (As := [.ref (ad 150), .int x4]) (rest := []) ⟨rfl, rfl⟩ X hZ hH (h6_pull l hI hl0 _ x4 ht30) (vx_cwSW 2 hts qL_110 rfl rfl rfl (by decide +kernel) ⟨Nat.le_of_ble_eq_true rfl, Nat.le_of_ble_eq_true rfl⟩) rfl hl.1 rfl (Nat.le_of_ble_eq_true rfl) dL_acts_230 ⟨by omega, by omega⟩ (fun H locs hH => ?_)
                                obtain rfl := so_i hf
                                exact e6_i X hH rfl (by omega) (by omega) dL_acts_233
                              · have hf := it_f c29 hf
                                by_cases c31 : y0 = 15
                                · have hf := it_t c31 hf
                                  refine lv_tableIn (off := 196) (tgt := 234) hx hb dL_acts_38 (by rw [c31]; decide) (by rw [c31]; decide) (by rw [c31]; rfl) (by decide) ?_
                                  refine lv_aload_n hx hb dL_acts_234 rfl (lv_at hl 0 rfl) ?_
                                  refine lv_iload_n hx hb dL_acts_235 rfl (lv_at hl 1 rfl) ?_
                                  refine lv_iconst (v := 3) hx hb dL_acts_236 (by decide) ?_
                                  refine hr_irem hx hb dL_acts_237 (by decide) ?_
                                  refine lv_iconst (v := 1) hx hb dL_acts_238 (by decide) ?_
                                  refine lv_iload_n hx hb dL_acts_239 rfl (lv_at hl 1 rfl) ?_
                                  refine lv_iconst (v := 4) hx hb dL_acts_240 (by decide) ?_
                                  refine lv_idiv hx hb dL_acts_241 (by decide) ?_
                                  refine lv_iconst (v := 4) hx hb dL_acts_242 (by decide) ?_
                                  refine hr_irem hx hb dL_acts_243 (by decide) ?_
                                  refine lv_iadd hx hb dL_acts_244 ?_
                                  obtain ⟨t32, ht32, hf⟩ := bd_o hf
                                  refine kh (MC := 153) (MS := 918) (As := [.ref (ad 150), .int (rmI x2 3), .int (1 + (rmI (x2 / 4) 4))]) (rest := []) ⟨rfl, rfl⟩ X hZ hH (h6_set l hI hl0 _ (rmI x2 3) (1 + (rmI (x2 / 4) 4)) ht32) (vx_cwSW 3 hts qL_112 rfl rfl rfl (by decide +kernel) ⟨Nat.le_of_ble_eq_true rfl, Nat.le_of_ble_eq_true rfl⟩) rfl hl.1 rfl (Nat.le_of_ble_eq_true rfl) dL_acts_245 ⟨by omega, by omega⟩ (fun H locs hH => ?_)
                                  obtain rfl := so_i hf
                                  exact e6_i X hH rfl (by omega) (by omega) dL_acts_248
                                · have hf := it_f c31 hf
                                  by_cases c33 : y0 = 16
                                  · have hf := it_t c33 hf
                                    refine lv_tableIn (off := 211) (tgt := 249) hx hb dL_acts_38 (by rw [c33]; decide) (by rw [c33]; decide) (by rw [c33]; rfl) (by decide) ?_
                                    refine lv_aload_n hx hb dL_acts_249 rfl (lv_at hl 0 rfl) ?_
                                    obtain ⟨t34, ht34, hf⟩ := bd_o hf
                                    refine kh (MC := 153) (MS := 918) (As := [.ref (ad 150)]) (rest := []) ⟨rfl, rfl⟩ X hZ hH (h6_undo l hI hl0 _  ht34) (vx_cwSW 1 hts qL_114 rfl rfl rfl (by decide +kernel) ⟨Nat.le_of_ble_eq_true rfl, Nat.le_of_ble_eq_true rfl⟩) rfl hl.1 rfl (Nat.le_of_ble_eq_true rfl) dL_acts_250 ⟨by omega, by omega⟩ (fun H locs hH => ?_)
                                    obtain rfl := so_i hf
                                    exact e6_i X hH rfl (by omega) (by omega) dL_acts_253
                                  · have hf := it_f c33 hf
                                    by_cases c35 : y0 = 17
                                    · have hf := it_t c35 hf
                                      refine lv_tableIn (off := 211) (tgt := 249) hx hb dL_acts_38 (by rw [c35]; decide) (by rw [c35]; decide) (by rw [c35]; rfl) (by decide) ?_
                                      refine lv_aload_n hx hb dL_acts_249 rfl (lv_at hl 0 rfl) ?_
                                      obtain ⟨t36, ht36, hf⟩ := bd_o hf
                                      refine kh (MC := 153) (MS := 918) (As := [.ref (ad 150)]) (rest := []) ⟨rfl, rfl⟩ X hZ hH (h6_undo l hI hl0 _  ht36) (vx_cwSW 1 hts qL_114 rfl rfl rfl (by decide +kernel) ⟨Nat.le_of_ble_eq_true rfl, Nat.le_of_ble_eq_true rfl⟩) rfl hl.1 rfl (Nat.le_of_ble_eq_true rfl) dL_acts_250 ⟨by omega, by omega⟩ (fun H locs hH => ?_)
                                      obtain rfl := so_i hf
                                      exact e6_i X hH rfl (by omega) (by omega) dL_acts_253
                                    · have hf := it_f c35 hf
                                      by_cases c37 : y0 = 18
                                      · have hf := it_t c37 hf
                                        refine lv_tableIn (off := 216) (tgt := 254) hx hb dL_acts_38 (by rw [c37]; decide) (by rw [c37]; decide) (by rw [c37]; rfl) (by decide) ?_
                                        refine lv_aload_n hx hb dL_acts_254 rfl (lv_at hl 0 rfl) ?_
                                        refine lv_iload_n hx hb dL_acts_255 rfl (lv_at hl 1 rfl) ?_
                                        refine lv_iconst (v := 2) hx hb dL_acts_256 (by decide) ?_
                                        refine hr_irem hx hb dL_acts_257 (by decide) ?_
                                        obtain ⟨t38, ht38, hf⟩ := bd_o hf
                                        refine kh (MC := 153) (MS := 918) (As := [.ref (ad 150), .int (rmI x2 2)]) (rest := []) ⟨rfl, rfl⟩ X hZ hH (h6_keep l hI hl0 _ (rmI x2 2) ht38) (vx_cwSW 2 hts qL_116 rfl rfl rfl (by decide +kernel) ⟨Nat.le_of_ble_eq_true rfl, Nat.le_of_ble_eq_true rfl⟩) rfl hl.1 rfl (Nat.le_of_ble_eq_true rfl) dL_acts_258 ⟨by omega, by omega⟩ (fun H locs hH => ?_)
                                        obtain rfl := so_i hf
                                        exact e6_i X hH rfl (by omega) (by omega) dL_acts_261
                                      · have hf := it_f c37 hf
                                        by_cases c39 : y0 = 19
                                        · have hf := it_t c39 hf
                                          refine lv_tableIn (off := 224) (tgt := 262) hx hb dL_acts_38 (by rw [c39]; decide) (by rw [c39]; decide) (by rw [c39]; rfl) (by decide) ?_
                                          refine lv_aload_n hx hb dL_acts_262 rfl (lv_at hl 0 rfl) ?_
                                          refine lv_iload_n hx hb dL_acts_263 rfl (lv_at hl 1 rfl) ?_
                                          refine lv_iconst (v := 2) hx hb dL_acts_264 (by decide) ?_
                                          refine hr_irem hx hb dL_acts_265 (by decide) ?_
                                          obtain ⟨t40, ht40, hf⟩ := bd_o hf
                                          refine kh (MC := 153) (MS := 918) (As := [.ref (ad 150), .int (rmI x2 2)]) (rest := []) ⟨rfl, rfl⟩ X hZ hH (h6_goBack l hI hl0 _ (rmI x2 2) ht40) (vx_cwSW 2 hts qL_118 rfl rfl rfl (by decide +kernel) ⟨Nat.le_of_ble_eq_true rfl, Nat.le_of_ble_eq_true rfl⟩) rfl hl.1 rfl (Nat.le_of_ble_eq_true rfl) dL_acts_266 ⟨by omega, by omega⟩ (fun H locs hH => ?_)
                                          obtain rfl := so_i hf
                                          exact e6_i X hH rfl (by omega) (by omega) dL_acts_269
                                        · have hf := it_f c39 hf
                                          by_cases c41 : y0 = 20
                                          · have hf := it_t c41 hf
                                            refine lv_tableIn (off := 232) (tgt := 270) hx hb dL_acts_38 (by rw [c41]; decide) (by rw [c41]; decide) (by rw [c41]; rfl) (by decide) ?_
                                            refine lv_aload_n hx hb dL_acts_270 rfl (lv_at hl 0 rfl) ?_
                                            obtain ⟨t42, ht42, hf⟩ := bd_o hf
                                            refine k4_clearBuffer X hI hH hl.1 qL_120 ⟨Nat.le_of_ble_eq_true rfl, Nat.le_of_ble_eq_true rfl⟩ ht42 (Nat.le_of_ble_eq_true rfl) dL_acts_271 (kc6 (MC := 153) (MS := 918) ⟨rfl, rfl⟩ ⟨by omega, by omega⟩) (fun H locs hH => ?_)
                                            refine lv_istore (lv' := [(5, .int t42.1), (0, .ref (ad 150)), (2, .int x2), (4, .int x4)]) hx hb dL_acts_274 hl (by decide) rfl (fun ls hl => ?_)
                                            refine lv_iconst (v := 0) hx hb dL_acts_276 (by decide) ?_
                                            refine lv_istore (lv' := [(6, .int 0), (5, .int t42.1), (0, .ref (ad 150)), (2, .int x2), (4, .int x4)]) hx hb dL_acts_277 hl (by decide) rfl (fun ls hl => ?_)
                                            exact w6_acts_279 X hI hl0 hZ 10 _ _ _ _ _ _ _ _ hH ⟨by omega, by omega⟩ _ (lv_sub hl [2, 3, 1, 0] rfl) hf
                                          · have hf := it_f c41 hf
                                            by_cases c43 : y0 = 21
                                            · have hf := it_t c43 hf
                                              refine lv_tableIn (off := 232) (tgt := 270) hx hb dL_acts_38 (by rw [c43]; decide) (by rw [c43]; decide) (by rw [c43]; rfl) (by decide) ?_
                                              refine lv_aload_n hx hb dL_acts_270 rfl (lv_at hl 0 rfl) ?_
                                              obtain ⟨t44, ht44, hf⟩ := bd_o hf
                                              refine k4_clearBuffer X hI hH hl.1 qL_120 ⟨Nat.le_of_ble_eq_true rfl, Nat.le_of_ble_eq_true rfl⟩ ht44 (Nat.le_of_ble_eq_true rfl) dL_acts_271 (kc6 (MC := 153) (MS := 918) ⟨rfl, rfl⟩ ⟨by omega, by omega⟩) (fun H locs hH => ?_)
                                              refine lv_istore (lv' := [(5, .int t44.1), (0, .ref (ad 150)), (2, .int x2), (4, .int x4)]) hx hb dL_acts_274 hl (by decide) rfl (fun ls hl => ?_)
                                              refine lv_iconst (v := 0) hx hb dL_acts_276 (by decide) ?_
                                              refine lv_istore (lv' := [(6, .int 0), (5, .int t44.1), (0, .ref (ad 150)), (2, .int x2), (4, .int x4)]) hx hb dL_acts_277 hl (by decide) rfl (fun ls hl => ?_)
                                              exact w6_acts_279 X hI hl0 hZ 10 _ _ _ _ _ _ _ _ hH ⟨by omega, by omega⟩ _ (lv_sub hl [2, 3, 1, 0] rfl) hf
                                            · have hf := it_f c43 hf
                                              by_cases c45 : y0 = 22
                                              · have hf := it_t c45 hf
                                                refine lv_tableIn (off := 232) (tgt := 270) hx hb dL_acts_38 (by rw [c45]; decide) (by rw [c45]; decide) (by rw [c45]; rfl) (by decide) ?_
                                                refine lv_aload_n hx hb dL_acts_270 rfl (lv_at hl 0 rfl) ?_
                                                obtain ⟨t46, ht46, hf⟩ := bd_o hf
                                                refine k4_clearBuffer X hI hH hl.1 qL_120 ⟨Nat.le_of_ble_eq_true rfl, Nat.le_of_ble_eq_true rfl⟩ ht46 (Nat.le_of_ble_eq_true rfl) dL_acts_271 (kc6 (MC := 153) (MS := 918) ⟨rfl, rfl⟩ ⟨by omega, by omega⟩) (fun H locs hH => ?_)
                                                refine lv_istore (lv' := [(5, .int t46.1), (0, .ref (ad 150)), (2, .int x2), (4, .int x4)]) hx hb dL_acts_274 hl (by decide) rfl (fun ls hl => ?_)
                                                refine lv_iconst (v := 0) hx hb dL_acts_276 (by decide) ?_
                                                refine lv_istore (lv' := [(6, .int 0), (5, .int t46.1), (0, .ref (ad 150)), (2, .int x2), (4, .int x4)]) hx hb dL_acts_277 hl (by decide) rfl (fun ls hl => ?_)
                                                exact w6_acts_279 X hI hl0 hZ 10 _ _ _ _ _ _ _ _ hH ⟨by omega, by omega⟩ _ (lv_sub hl [2, 3, 1, 0] rfl) hf
                                              · have hf := it_f c45 hf
                                                have nc1 : ¬ Int32.toInt y0 = 0 := ne_ti c1 (by decide)
                                                have nc3 : ¬ Int32.toInt y0 = 1 := ne_ti c3 (by decide)
                                                have nc5 : ¬ Int32.toInt y0 = 2 := ne_ti c5 (by decide)
                                                have nc7 : ¬ Int32.toInt y0 = 3 := ne_ti c7 (by decide)
                                                have nc9 : ¬ Int32.toInt y0 = 4 := ne_ti c9 (by decide)
                                                have nc11 : ¬ Int32.toInt y0 = 5 := ne_ti c11 (by decide)
                                                have nc13 : ¬ Int32.toInt y0 = 6 := ne_ti c13 (by decide)
                                                have nc15 : ¬ Int32.toInt y0 = 7 := ne_ti c15 (by decide)
                                                have nc17 : ¬ Int32.toInt y0 = 8 := ne_ti c17 (by decide)
                                                have nc19 : ¬ Int32.toInt y0 = 9 := ne_ti c19 (by decide)
                                                have nc21 : ¬ Int32.toInt y0 = 10 := ne_ti c21 (by decide)
                                                have nc23 : ¬ Int32.toInt y0 = 11 := ne_ti c23 (by decide)
                                                have nc25 : ¬ Int32.toInt y0 = 12 := ne_ti c25 (by decide)
                                                have nc27 : ¬ Int32.toInt y0 = 13 := ne_ti c27 (by decide)
                                                have nc29 : ¬ Int32.toInt y0 = 14 := ne_ti c29 (by decide)
                                                have nc31 : ¬ Int32.toInt y0 = 15 := ne_ti c31 (by decide)
                                                have nc33 : ¬ Int32.toInt y0 = 16 := ne_ti c33 (by decide)
                                                have nc35 : ¬ Int32.toInt y0 = 17 := ne_ti c35 (by decide)
                                                have nc37 : ¬ Int32.toInt y0 = 18 := ne_ti c37 (by decide)
                                                have nc39 : ¬ Int32.toInt y0 = 19 := ne_ti c39 (by decide)
                                                have nc41 : ¬ Int32.toInt y0 = 20 := ne_ti c41 (by decide)
                                                have nc43 : ¬ Int32.toInt y0 = 21 := ne_ti c43 (by decide)
                                                have nc45 : ¬ Int32.toInt y0 = 22 := ne_ti c45 (by decide)
                                                refine lv_tableOut (tgt := 492) hx hb dL_acts_38 (by omega) (by decide) ?_
                                                refine lv_aload_n hx hb dL_acts_492 rfl (lv_at hl 0 rfl) ?_
                                                refine lv_iconst (v := 1) hx hb dL_acts_493 (by decide) ?_
                                                refine lv_iload_n hx hb dL_acts_494 rfl (lv_at hl 1 rfl) ?_
                                                refine lv_iload_n hx hb dL_acts_495 rfl (lv_at hl 1 rfl) ?_
                                                refine lv_iconst (v := 3) hx hb dL_acts_496 (by decide) ?_
                                                refine hr_irem hx hb dL_acts_497 (by decide) ?_
                                                refine lv_if_ne (tgt := 506) hx hb dL_acts_498 (by decide) (fun c47 => ?_) (fun c47 => ?_)
                                                · have hf := it_f c47 hf
                                                  refine lv_bipush (v := 10) hx hb dL_acts_506 (by decide) ?_
                                                  exact w6_acts_508 X hI hl0 hZ hH ⟨by omega, by omega⟩ (lv_sub hl [] rfl) hf
                                                · have hf := it_t c47 hf
                                                  refine lv_bipush (v := 60) hx hb dL_acts_501 (by decide) ?_
                                                  refine lv_goto (tgt := 508) hx hb dL_acts_503 (by decide) ?_
                                                  exact w6_acts_508 X hI hl0 hZ hH ⟨by omega, by omega⟩ (lv_sub hl [] rfl) hf
def f6_acts_23 (x1 : Int32) (x2 : Int32) (x3 : Int32) (y0 : Int32) (mu : Nat → Nat → Int32) : Option (Int32 × (Nat → Nat → Int32)) := if 3 ≤ x3 then (f6_acts_38 x2 y0 (rmI x1 32) mu) else (f6_acts_38 x2 y0 0 mu)
set_option maxRecDepth 100000 in
set_option maxHeartbeats 4000000 in
theorem w6_acts_23 {p : Program} {l : Launch} {e : Env} {s : State} {m : MethodId} {args : Array Value} {below : List Frame} {meth : Method} {c : Code} {D : va_G} {Y : cYt} {ad : Nat → Nat} {mu : Nat → Nat → Int32} (X : cX D Y p s m args meth c cL_acts 8 RL (some .int)) (hI : cInj ad) (hl0 : l.stackTraces = false) (hZ : lZ ad s.heap.size s)  {x1 : Int32} {x2 : Int32} {x3 : Int32} {y0 : Int32} {t : Int32 × (Nat → Nat → Int32)} {H : Heap} {locs : List Loc} (hH : cH D Y ad mu s H locs) {cells slots : Nat} (hc : cells + 3 * (50) ≤ 153 ∧ slots + 18 * (50) ≤ 918) {ls : Array Slot} (hl : lv_has ls 8 [(0, .ref (ad 150)), (1, .int x1), (2, .int x2), (3, .int x3)]) (hf : f6_acts_23 x1 x2 x3 y0 mu = some t) : W p l e rm6_acts s m args below meth c H locs cells slots (MQ below (va_Qi (fun (r9 : Int32) (_ : Unit) => r9 = t.1) (fun _ t9 => cB D Y ad t.2 t9) (cA ad s.heap.size)) args s 153 918 (cA ad s.heap.size)) (F0 m 23 ls [.int y0]) := by
  obtain ⟨⟨hx, hb, hml, hown, hts⟩, hr, hlk, hK⟩ := id X
  replace hf : (if 3 ≤ x3 then (f6_acts_38 x2 y0 (rmI x1 32) mu) else (f6_acts_38 x2 y0 0 mu)) = some t := hf
  refine lv_istore (lv' := [(4, .int y0), (0, .ref (ad 150)), (1, .int x1), (2, .int x2), (3, .int x3)]) hx hb dL_acts_23 hl (by decide) rfl (fun ls hl => ?_)
  refine lv_iload_n hx hb dL_acts_25 rfl (lv_at hl 4 rfl) ?_
  refine lv_iconst (v := 3) hx hb dL_acts_26 (by decide) ?_
  refine lv_icmp_ge (tgt := 34) hx hb dL_acts_27 (by decide) (fun c1 => ?_) (fun c1 => ?_)
  · have hf := it_t c1 hf
    refine lv_iload_n hx hb dL_acts_34 rfl (lv_at hl 2 rfl) ?_
    refine lv_bipush (v := 32) hx hb dL_acts_35 (by decide) ?_
    refine hr_irem hx hb dL_acts_37 (by decide) ?_
    exact w6_acts_38 X hI hl0 hZ hH ⟨by omega, by omega⟩ (lv_sub hl [1, 3, 0] rfl) hf
  · have hf := it_f c1 hf
    refine lv_iconst (v := 0) hx hb dL_acts_30 (by decide) ?_
    refine lv_goto (tgt := 38) hx hb dL_acts_31 (by decide) ?_
    exact w6_acts_38 X hI hl0 hZ hH ⟨by omega, by omega⟩ (lv_sub hl [1, 3, 0] rfl) hf
def f6_acts_0 (x1 : Int32) (mu : Nat → Nat → Int32) : Option (Int32 × (Nat → Nat → Int32)) := Option.bind (f6_count_0 mu 1) (fun t1 => if 1 ≤ t1 then (gr t1 (f6_acts_23 x1 (x1 / 32) t1 (rmI (x1 / 32) t1) mu)) else (f6_acts_23 x1 (x1 / 32) t1 0 mu))
set_option maxRecDepth 100000 in
set_option maxHeartbeats 4000000 in
theorem w6_acts_0 {p : Program} {l : Launch} {e : Env} {s : State} {m : MethodId} {args : Array Value} {below : List Frame} {meth : Method} {c : Code} {D : va_G} {Y : cYt} {ad : Nat → Nat} {mu : Nat → Nat → Int32} (X : cX D Y p s m args meth c cL_acts 8 RL (some .int)) (hI : cInj ad) (hl0 : l.stackTraces = false) (hZ : lZ ad s.heap.size s)  {x1 : Int32} {t : Int32 × (Nat → Nat → Int32)} {H : Heap} {locs : List Loc} (hH : cH D Y ad mu s H locs) {cells slots : Nat} (hc : cells + 3 * (51) ≤ 153 ∧ slots + 18 * (51) ≤ 918) {ls : Array Slot} (hl : lv_has ls 8 [(0, .ref (ad 150)), (1, .int x1)]) (hf : f6_acts_0 x1 mu = some t) : W p l e rm6_acts s m args below meth c H locs cells slots (MQ below (va_Qi (fun (r9 : Int32) (_ : Unit) => r9 = t.1) (fun _ t9 => cB D Y ad t.2 t9) (cA ad s.heap.size)) args s 153 918 (cA ad s.heap.size)) (F0 m 0 ls []) := by
  obtain ⟨⟨hx, hb, hml, hown, hts⟩, hr, hlk, hK⟩ := id X
  replace hf : (Option.bind (f6_count_0 mu 1) (fun t1 => if 1 ≤ t1 then (gr t1 (f6_acts_23 x1 (x1 / 32) t1 (rmI (x1 / 32) t1) mu)) else (f6_acts_23 x1 (x1 / 32) t1 0 mu))) = some t := hf
  refine lv_iload_n hx hb dL_acts_0 rfl (lv_at hl 1 rfl) ?_
  refine lv_bipush (v := 32) hx hb dL_acts_1 (by decide) ?_
  refine lv_idiv hx hb dL_acts_3 (by decide) ?_
  refine lv_istore_n (lv' := [(2, .int (x1 / 32)), (0, .ref (ad 150)), (1, .int x1)]) hx hb dL_acts_4 rfl hl (by decide) rfl (fun ls hl => ?_)
  refine lv_aload_n hx hb dL_acts_5 rfl (lv_at hl 1 rfl) ?_
  refine lv_iconst (v := 1) hx hb dL_acts_6 (by decide) ?_
  obtain ⟨t1, ht1, hf⟩ := bd_o hf
  refine kh (MC := 153) (MS := 918) (As := [.ref (ad 150), .int 1]) (rest := []) ⟨rfl, rfl⟩ X hZ hH (h6_count l hI hl0 _ 1 ht1) (vx_cwSW 2 hts qL_91 rfl rfl rfl (by decide +kernel) ⟨Nat.le_of_ble_eq_true rfl, Nat.le_of_ble_eq_true rfl⟩) rfl hl.1 rfl (Nat.le_of_ble_eq_true rfl) dL_acts_7 ⟨by omega, by omega⟩ (fun H locs hH => ?_)
  refine lv_istore_n (lv' := [(3, .int t1), (2, .int (x1 / 32)), (0, .ref (ad 150)), (1, .int x1)]) hx hb dL_acts_10 rfl hl (by decide) rfl (fun ls hl => ?_)
  refine lv_iload_n hx hb dL_acts_11 rfl (lv_at hl 0 rfl) ?_
  refine lv_iconst (v := 1) hx hb dL_acts_12 (by decide) ?_
  refine lv_icmp_ge (tgt := 20) hx hb dL_acts_13 (by decide) (fun c2 => ?_) (fun c2 => ?_)
  · have hf := it_t c2 hf
    refine lv_iload_n hx hb dL_acts_20 rfl (lv_at hl 1 rfl) ?_
    refine lv_iload_n hx hb dL_acts_21 rfl (lv_at hl 0 rfl) ?_
    obtain ⟨hn3, hf⟩ := gr_o hf
    refine hr_irem hx hb dL_acts_22 hn3 ?_
    exact w6_acts_23 X hI hl0 hZ hH ⟨by omega, by omega⟩ (lv_sub hl [2, 3, 1, 0] rfl) hf
  · have hf := it_f c2 hf
    refine lv_iconst (v := 0) hx hb dL_acts_16 (by decide) ?_
    refine lv_goto (tgt := 23) hx hb dL_acts_17 (by decide) ?_
    exact w6_acts_23 X hI hl0 hZ hH ⟨by omega, by omega⟩ (lv_sub hl [2, 3, 1, 0] rfl) hf
set_option maxRecDepth 100000 in
set_option maxHeartbeats 4000000 in
theorem c6_acts (l : Launch) {D : va_G} {Y : cYt} {ad : Nat → Nat} {mu : Nat → Nat → Int32} (hI : cInj ad) (hl0 : l.stackTraces = false) (sz : Nat) (x1 : Int32) {t : Int32 × (Nat → Nat → Int32)} (hf : f6_acts_0 x1 mu = some t) : Met l yL_acts uL_acts rm6_acts (va_Pc [.ref (ad 150), .int x1] (fun U => U.heap.size = sz ∧ lZ ad sz U ∧ cB D Y ad mu U)) (va_Qi (fun (r9 : Int32) (_ : Unit) => r9 = t.1) (fun _ t9 => cB D Y ad t.2 t9) (cA ad sz)) 153 918 (cA ad sz) := by
  refine Met.ofW (cc := cL_acts) (maxL := 8) (ret := (some .int)) (by decide) rfl ?_
  intro p e s m args below meth c s₁ B hml hv
  obtain ⟨rfl, hsz, hz, hP, hK⟩ := hv
  subst hsz
  have X : cX D Y p s m ([.ref (ad 150), .int x1] : List Value).toArray meth c cL_acts 8 RL (some .int) := ⟨⟨B.exec, B.bytes, hml, findClass_of_methodNamed B.named, fun w h => atoms_spec (ws := uL_acts) B.pre w (List.mem_cons_of_mem _ h)⟩, B.returns, B.notSynchronized, hK⟩
  have hl := lv_entry ([.ref (ad 150), .int x1]) (n := 8) (Nat.le_of_ble_eq_true rfl)
  rw [lg_entry_eq]
  generalize (lg_sl ([.ref (ad 150), .int x1]) ++ List.replicate (8 - (lg_sl ([.ref (ad 150), .int x1])).length) Slot.unset).toArray = ls at hl ⊢
  have hl : lv_has ls 8 [(0, .ref (ad 150)), (1, .int x1)] := hl
  exact w6_acts_0 X hI hl0 hz ⟨hP, va_S.rf⟩ ⟨Nat.le_of_ble_eq_true rfl, Nat.le_of_ble_eq_true rfl⟩ (lv_sub hl [0, 1] rfl) hf
