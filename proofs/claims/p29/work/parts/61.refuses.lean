/-! the law: refuses -/
/-! OreRailwayLaw.refuses(LOreRailway;I)Z -/
def rm6_refuses : Room := { frames := 9, cells := 138, slots := 828, locals := 194 }
def f6_refuses_637 (y0 : Int32) (mu : Nat → Nat → Int32) : Option (Int32 × (Nat → Nat → Int32)) := gz y0 (some (y0, mu))
set_option maxRecDepth 100000 in
set_option maxHeartbeats 4000000 in
theorem w6_refuses_637 {p : Program} {l : Launch} {e : Env} {s : State} {m : MethodId} {args : Array Value} {below : List Frame} {meth : Method} {c : Code} {D : va_G} {Y : cYt} {ad : Nat → Nat} {mu : Nat → Nat → Int32} (X : cX D Y p s m args meth c cL_refuses 6 RL (some .boolean)) (hI : cInj ad) (hl0 : l.stackTraces = false) (hZ : lZ ad s.heap.size s)  {y0 : Int32} {t : Int32 × (Nat → Nat → Int32)} {H : Heap} {locs : List Loc} (hH : cH D Y ad mu s H locs) {cells slots : Nat} (hc : cells + 3 * (0) ≤ 138 ∧ slots + 18 * (0) ≤ 828) {ls : Array Slot} (hl : lv_has ls 6 []) (hf : f6_refuses_637 y0 mu = some t) : W p l e rm6_refuses s m args below meth c H locs cells slots (MQ below (va_Qi (fun (r9 : Int32) (_ : Unit) => r9 = t.1) (fun _ t9 => cB D Y ad t.2 t9) (cA ad s.heap.size)) args s 138 828 (cA ad s.heap.size)) (F0 m 637 ls [.int y0]) := by
  obtain ⟨⟨hx, hb, hml, hown, hts⟩, hr, hlk, hK⟩ := id X
  replace hf : (gz y0 (some (y0, mu))) = some t := hf
  obtain ⟨hz, hf⟩ := gz_o hf
  obtain rfl := so_i hf
  exact e6_z X hH rfl (nz_z hz) (by omega) (by omega) dL_refuses_637
def f6_refuses_636 (mu : Nat → Nat → Int32) : Option (Int32 × (Nat → Nat → Int32)) := f6_refuses_637 0 mu
set_option maxRecDepth 100000 in
set_option maxHeartbeats 4000000 in
theorem w6_refuses_636 {p : Program} {l : Launch} {e : Env} {s : State} {m : MethodId} {args : Array Value} {below : List Frame} {meth : Method} {c : Code} {D : va_G} {Y : cYt} {ad : Nat → Nat} {mu : Nat → Nat → Int32} (X : cX D Y p s m args meth c cL_refuses 6 RL (some .boolean)) (hI : cInj ad) (hl0 : l.stackTraces = false) (hZ : lZ ad s.heap.size s)  {t : Int32 × (Nat → Nat → Int32)} {H : Heap} {locs : List Loc} (hH : cH D Y ad mu s H locs) {cells slots : Nat} (hc : cells + 3 * (0) ≤ 138 ∧ slots + 18 * (0) ≤ 828) {ls : Array Slot} (hl : lv_has ls 6 []) (hf : f6_refuses_636 mu = some t) : W p l e rm6_refuses s m args below meth c H locs cells slots (MQ below (va_Qi (fun (r9 : Int32) (_ : Unit) => r9 = t.1) (fun _ t9 => cB D Y ad t.2 t9) (cA ad s.heap.size)) args s 138 828 (cA ad s.heap.size)) (F0 m 636 ls []) := by
  obtain ⟨⟨hx, hb, hml, hown, hts⟩, hr, hlk, hK⟩ := id X
  replace hf : (f6_refuses_637 0 mu) = some t := hf
  refine lv_iconst (v := 0) hx hb dL_refuses_636 (by decide) ?_
  exact w6_refuses_637 X hI hl0 hZ hH ⟨by omega, by omega⟩ (lv_sub hl [] rfl) hf
def f6_refuses_571 (y0 : Int32) (mu : Nat → Nat → Int32) : Option (Int32 × (Nat → Nat → Int32)) := Option.bind (f4_clearBuffer_0 mu) (fun t1 => if y0 = 0 then (f6_refuses_636 t1.2) else (if t1.1 < 0 then (f6_refuses_636 t1.2) else (Option.bind (f6_execute_0 t1.2) (fun t4 => if t4.1 = ((-2)) then (Option.bind (f6_append_0 59 t4.2) (fun t6 => if t6.1 = 1 then (Option.bind (f4_firstError_0 t6.2) (fun t8 => if t8 = 0 then (Option.bind (f6_execute_0 t6.2) (fun t10 => if t10.1 = ((-2)) then (Option.bind (f4_clearBuffer_0 t10.2) (fun t12 => if t12.1 = 1 then (f6_refuses_637 1 t12.2) else (f6_refuses_636 t12.2))) else (f6_refuses_636 t10.2))) else (f6_refuses_636 t6.2))) else (f6_refuses_636 t6.2))) else (f6_refuses_636 t4.2)))))
set_option maxRecDepth 100000 in
set_option maxHeartbeats 4000000 in
theorem w6_refuses_571 {p : Program} {l : Launch} {e : Env} {s : State} {m : MethodId} {args : Array Value} {below : List Frame} {meth : Method} {c : Code} {D : va_G} {Y : cYt} {ad : Nat → Nat} {mu : Nat → Nat → Int32} (X : cX D Y p s m args meth c cL_refuses 6 RL (some .boolean)) (hI : cInj ad) (hl0 : l.stackTraces = false) (hZ : lZ ad s.heap.size s)  {y0 : Int32} {t : Int32 × (Nat → Nat → Int32)} {H : Heap} {locs : List Loc} (hH : cH D Y ad mu s H locs) {cells slots : Nat} (hc : cells + 3 * (3) ≤ 138 ∧ slots + 18 * (3) ≤ 828) {ls : Array Slot} (hl : lv_has ls 6 [(0, .ref (ad 150))]) (hf : f6_refuses_571 y0 mu = some t) : W p l e rm6_refuses s m args below meth c H locs cells slots (MQ below (va_Qi (fun (r9 : Int32) (_ : Unit) => r9 = t.1) (fun _ t9 => cB D Y ad t.2 t9) (cA ad s.heap.size)) args s 138 828 (cA ad s.heap.size)) (F0 m 571 ls [.int y0]) := by
  obtain ⟨⟨hx, hb, hml, hown, hts⟩, hr, hlk, hK⟩ := id X
  replace hf : (Option.bind (f4_clearBuffer_0 mu) (fun t1 => if y0 = 0 then (f6_refuses_636 t1.2) else (if t1.1 < 0 then (f6_refuses_636 t1.2) else (Option.bind (f6_execute_0 t1.2) (fun t4 => if t4.1 = ((-2)) then (Option.bind (f6_append_0 59 t4.2) (fun t6 => if t6.1 = 1 then (Option.bind (f4_firstError_0 t6.2) (fun t8 => if t8 = 0 then (Option.bind (f6_execute_0 t6.2) (fun t10 => if t10.1 = ((-2)) then (Option.bind (f4_clearBuffer_0 t10.2) (fun t12 => if t12.1 = 1 then (f6_refuses_637 1 t12.2) else (f6_refuses_636 t12.2))) else (f6_refuses_636 t10.2))) else (f6_refuses_636 t6.2))) else (f6_refuses_636 t6.2))) else (f6_refuses_636 t4.2)))))) = some t := hf
  refine lv_istore (lv' := [(4, .int y0), (0, .ref (ad 150))]) hx hb dL_refuses_571 hl (by decide) rfl (fun ls hl => ?_)
  refine lv_aload_n hx hb dL_refuses_573 rfl (lv_at hl 1 rfl) ?_
  obtain ⟨t1, ht1, hf⟩ := bd_o hf
  refine k4_clearBuffer X hI hH hl.1 qL_120 ⟨Nat.le_of_ble_eq_true rfl, Nat.le_of_ble_eq_true rfl⟩ ht1 (Nat.le_of_ble_eq_true rfl) dL_refuses_574 (kc6 (MC := 138) (MS := 828) ⟨rfl, rfl⟩ ⟨by omega, by omega⟩) (fun H locs hH => ?_)
  refine lv_istore (lv' := [(5, .int t1.1), (4, .int y0), (0, .ref (ad 150))]) hx hb dL_refuses_577 hl (by decide) rfl (fun ls hl => ?_)
  refine lv_iload hx hb dL_refuses_579 (lv_at hl 1 rfl) ?_
  refine lv_if_eq (tgt := 636) hx hb dL_refuses_581 (by decide) (fun c2 => ?_) (fun c2 => ?_)
  · have hf := it_t c2 hf
    exact w6_refuses_636 X hI hl0 hZ hH ⟨by omega, by omega⟩ (lv_sub hl [] rfl) hf
  · have hf := it_f c2 hf
    refine lv_iload hx hb dL_refuses_584 (lv_at hl 0 rfl) ?_
    refine lv_if_lt (tgt := 636) hx hb dL_refuses_586 (by decide) (fun c3 => ?_) (fun c3 => ?_)
    · have hf := it_t c3 hf
      exact w6_refuses_636 X hI hl0 hZ hH ⟨by omega, by omega⟩ (lv_sub hl [] rfl) hf
    · have hf := it_f c3 hf
      refine lv_aload_n hx hb dL_refuses_589 rfl (lv_at hl 2 rfl) ?_
      obtain ⟨t4, ht4, hf⟩ := bd_o hf
      refine kh (MC := 138) (MS := 828) (As := [.ref (ad 150)]) (rest := []) ⟨rfl, rfl⟩ X hZ hH (h6_execute l hI hl0 _  ht4) (vx_cwSW 1 hts qL_128 rfl rfl rfl (by decide +kernel) ⟨Nat.le_of_ble_eq_true rfl, Nat.le_of_ble_eq_true rfl⟩) rfl hl.1 rfl (Nat.le_of_ble_eq_true rfl) dL_refuses_590 ⟨by omega, by omega⟩ (fun H locs hH => ?_)
      refine lv_bipush (v := (-2)) hx hb dL_refuses_593 (by decide) ?_
      refine lv_icmp_ne (tgt := 636) hx hb dL_refuses_595 (by decide) (fun c5 => ?_) (fun c5 => ?_)
      · have hf := it_f c5 hf
        exact w6_refuses_636 X hI hl0 hZ hH ⟨by omega, by omega⟩ (lv_sub hl [] rfl) hf
      · have hf := it_t c5 hf
        refine lv_aload_n hx hb dL_refuses_598 rfl (lv_at hl 2 rfl) ?_
        refine lv_bipush (v := 59) hx hb dL_refuses_599 (by decide) ?_
        obtain ⟨t6, ht6, hf⟩ := bd_o hf
        refine kh (MC := 138) (MS := 828) (As := [.ref (ad 150), .int 59]) (rest := []) ⟨rfl, rfl⟩ X hZ hH (h6_append l hI hl0 _ 59 ht6) (vx_cwSW 2 hts qL_123 rfl rfl rfl (by decide +kernel) ⟨Nat.le_of_ble_eq_true rfl, Nat.le_of_ble_eq_true rfl⟩) rfl hl.1 rfl (Nat.le_of_ble_eq_true rfl) dL_refuses_601 ⟨by omega, by omega⟩ (fun H locs hH => ?_)
        refine lv_iconst (v := 1) hx hb dL_refuses_604 (by decide) ?_
        refine lv_icmp_ne (tgt := 636) hx hb dL_refuses_605 (by decide) (fun c7 => ?_) (fun c7 => ?_)
        · have hf := it_f c7 hf
          exact w6_refuses_636 X hI hl0 hZ hH ⟨by omega, by omega⟩ (lv_sub hl [] rfl) hf
        · have hf := it_t c7 hf
          refine lv_aload_n hx hb dL_refuses_608 rfl (lv_at hl 2 rfl) ?_
          obtain ⟨t8, ht8, hf⟩ := bd_o hf
          refine k4_firstError X hH.1 hl.1 qL_125 ⟨Nat.le_of_ble_eq_true rfl, Nat.le_of_ble_eq_true rfl⟩ ht8 (Nat.le_of_ble_eq_true rfl) dL_refuses_609 (kc6 (MC := 138) (MS := 828) ⟨rfl, rfl⟩ ⟨by omega, by omega⟩) ?_
          refine lv_if_ne (tgt := 636) hx hb dL_refuses_612 (by decide) (fun c9 => ?_) (fun c9 => ?_)
          · have hf := it_f c9 hf
            exact w6_refuses_636 X hI hl0 hZ hH ⟨by omega, by omega⟩ (lv_sub hl [] rfl) hf
          · have hf := it_t c9 hf
            refine lv_aload_n hx hb dL_refuses_615 rfl (lv_at hl 2 rfl) ?_
            obtain ⟨t10, ht10, hf⟩ := bd_o hf
            refine kh (MC := 138) (MS := 828) (As := [.ref (ad 150)]) (rest := []) ⟨rfl, rfl⟩ X hZ hH (h6_execute l hI hl0 _  ht10) (vx_cwSW 1 hts qL_128 rfl rfl rfl (by decide +kernel) ⟨Nat.le_of_ble_eq_true rfl, Nat.le_of_ble_eq_true rfl⟩) rfl hl.1 rfl (Nat.le_of_ble_eq_true rfl) dL_refuses_616 ⟨by omega, by omega⟩ (fun H locs hH => ?_)
            refine lv_bipush (v := (-2)) hx hb dL_refuses_619 (by decide) ?_
            refine lv_icmp_ne (tgt := 636) hx hb dL_refuses_621 (by decide) (fun c11 => ?_) (fun c11 => ?_)
            · have hf := it_f c11 hf
              exact w6_refuses_636 X hI hl0 hZ hH ⟨by omega, by omega⟩ (lv_sub hl [] rfl) hf
            · have hf := it_t c11 hf
              refine lv_aload_n hx hb dL_refuses_624 rfl (lv_at hl 2 rfl) ?_
              obtain ⟨t12, ht12, hf⟩ := bd_o hf
              refine k4_clearBuffer X hI hH hl.1 qL_120 ⟨Nat.le_of_ble_eq_true rfl, Nat.le_of_ble_eq_true rfl⟩ ht12 (Nat.le_of_ble_eq_true rfl) dL_refuses_625 (kc6 (MC := 138) (MS := 828) ⟨rfl, rfl⟩ ⟨by omega, by omega⟩) (fun H locs hH => ?_)
              refine lv_iconst (v := 1) hx hb dL_refuses_628 (by decide) ?_
              refine lv_icmp_ne (tgt := 636) hx hb dL_refuses_629 (by decide) (fun c13 => ?_) (fun c13 => ?_)
              · have hf := it_f c13 hf
                exact w6_refuses_636 X hI hl0 hZ hH ⟨by omega, by omega⟩ (lv_sub hl [] rfl) hf
              · have hf := it_t c13 hf
                refine lv_iconst (v := 1) hx hb dL_refuses_632 (by decide) ?_
                refine lv_goto (tgt := 637) hx hb dL_refuses_633 (by decide) ?_
                exact w6_refuses_637 X hI hl0 hZ hH ⟨by omega, by omega⟩ (lv_sub hl [] rfl) hf
def f6_refuses_570 (mu : Nat → Nat → Int32) : Option (Int32 × (Nat → Nat → Int32)) := f6_refuses_571 0 mu
set_option maxRecDepth 100000 in
set_option maxHeartbeats 4000000 in
theorem w6_refuses_570 {p : Program} {l : Launch} {e : Env} {s : State} {m : MethodId} {args : Array Value} {below : List Frame} {meth : Method} {c : Code} {D : va_G} {Y : cYt} {ad : Nat → Nat} {mu : Nat → Nat → Int32} (X : cX D Y p s m args meth c cL_refuses 6 RL (some .boolean)) (hI : cInj ad) (hl0 : l.stackTraces = false) (hZ : lZ ad s.heap.size s)  {t : Int32 × (Nat → Nat → Int32)} {H : Heap} {locs : List Loc} (hH : cH D Y ad mu s H locs) {cells slots : Nat} (hc : cells + 3 * (3) ≤ 138 ∧ slots + 18 * (3) ≤ 828) {ls : Array Slot} (hl : lv_has ls 6 [(0, .ref (ad 150))]) (hf : f6_refuses_570 mu = some t) : W p l e rm6_refuses s m args below meth c H locs cells slots (MQ below (va_Qi (fun (r9 : Int32) (_ : Unit) => r9 = t.1) (fun _ t9 => cB D Y ad t.2 t9) (cA ad s.heap.size)) args s 138 828 (cA ad s.heap.size)) (F0 m 570 ls []) := by
  obtain ⟨⟨hx, hb, hml, hown, hts⟩, hr, hlk, hK⟩ := id X
  replace hf : (f6_refuses_571 0 mu) = some t := hf
  refine lv_iconst (v := 0) hx hb dL_refuses_570 (by decide) ?_
  exact w6_refuses_571 X hI hl0 hZ hH ⟨by omega, by omega⟩ (lv_sub hl [0] rfl) hf
def f6_refuses_566 (mu : Nat → Nat → Int32) : Option (Int32 × (Nat → Nat → Int32)) := f6_refuses_571 1 mu
set_option maxRecDepth 100000 in
set_option maxHeartbeats 4000000 in
theorem w6_refuses_566 {p : Program} {l : Launch} {e : Env} {s : State} {m : MethodId} {args : Array Value} {below : List Frame} {meth : Method} {c : Code} {D : va_G} {Y : cYt} {ad : Nat → Nat} {mu : Nat → Nat → Int32} (X : cX D Y p s m args meth c cL_refuses 6 RL (some .boolean)) (hI : cInj ad) (hl0 : l.stackTraces = false) (hZ : lZ ad s.heap.size s)  {t : Int32 × (Nat → Nat → Int32)} {H : Heap} {locs : List Loc} (hH : cH D Y ad mu s H locs) {cells slots : Nat} (hc : cells + 3 * (3) ≤ 138 ∧ slots + 18 * (3) ≤ 828) {ls : Array Slot} (hl : lv_has ls 6 [(0, .ref (ad 150))]) (hf : f6_refuses_566 mu = some t) : W p l e rm6_refuses s m args below meth c H locs cells slots (MQ below (va_Qi (fun (r9 : Int32) (_ : Unit) => r9 = t.1) (fun _ t9 => cB D Y ad t.2 t9) (cA ad s.heap.size)) args s 138 828 (cA ad s.heap.size)) (F0 m 566 ls []) := by
  obtain ⟨⟨hx, hb, hml, hown, hts⟩, hr, hlk, hK⟩ := id X
  replace hf : (f6_refuses_571 1 mu) = some t := hf
  refine lv_iconst (v := 1) hx hb dL_refuses_566 (by decide) ?_
  refine lv_goto (tgt := 571) hx hb dL_refuses_567 (by decide) ?_
  exact w6_refuses_571 X hI hl0 hZ hH ⟨by omega, by omega⟩ (lv_sub hl [0] rfl) hf
def f6_refuses_546 (mu : Nat → Nat → Int32) : Option (Int32 × (Nat → Nat → Int32)) := Option.bind (f6_carOf_0 mu 0 0) (fun t1 => if t1 = 0 then (f6_refuses_566 mu) else (Option.bind (f6_load_0 0 1 mu) (fun t3 => if t3.1 = ((-4)) then (f6_refuses_566 t3.2) else (f6_refuses_570 t3.2))))
set_option maxRecDepth 100000 in
set_option maxHeartbeats 4000000 in
theorem w6_refuses_546 {p : Program} {l : Launch} {e : Env} {s : State} {m : MethodId} {args : Array Value} {below : List Frame} {meth : Method} {c : Code} {D : va_G} {Y : cYt} {ad : Nat → Nat} {mu : Nat → Nat → Int32} (X : cX D Y p s m args meth c cL_refuses 6 RL (some .boolean)) (hI : cInj ad) (hl0 : l.stackTraces = false) (hZ : lZ ad s.heap.size s)  {t : Int32 × (Nat → Nat → Int32)} {H : Heap} {locs : List Loc} (hH : cH D Y ad mu s H locs) {cells slots : Nat} (hc : cells + 3 * (5) ≤ 138 ∧ slots + 18 * (5) ≤ 828) {ls : Array Slot} (hl : lv_has ls 6 [(0, .ref (ad 150))]) (hf : f6_refuses_546 mu = some t) : W p l e rm6_refuses s m args below meth c H locs cells slots (MQ below (va_Qi (fun (r9 : Int32) (_ : Unit) => r9 = t.1) (fun _ t9 => cB D Y ad t.2 t9) (cA ad s.heap.size)) args s 138 828 (cA ad s.heap.size)) (F0 m 546 ls []) := by
  obtain ⟨⟨hx, hb, hml, hown, hts⟩, hr, hlk, hK⟩ := id X
  replace hf : (Option.bind (f6_carOf_0 mu 0 0) (fun t1 => if t1 = 0 then (f6_refuses_566 mu) else (Option.bind (f6_load_0 0 1 mu) (fun t3 => if t3.1 = ((-4)) then (f6_refuses_566 t3.2) else (f6_refuses_570 t3.2))))) = some t := hf
  refine lv_aload_n hx hb dL_refuses_546 rfl (lv_at hl 0 rfl) ?_
  refine lv_iconst (v := 0) hx hb dL_refuses_547 (by decide) ?_
  refine lv_iconst (v := 0) hx hb dL_refuses_548 (by decide) ?_
  obtain ⟨t1, ht1, hf⟩ := bd_o hf
  refine kh (MC := 138) (MS := 828) (As := [.ref (ad 150), .int 0, .int 0]) (rest := []) ⟨rfl, rfl⟩ X hZ hH (h6_carOf l hI hl0 _ 0 0 ht1) (vx_cwSW 3 hts qL_134 rfl rfl rfl (by decide +kernel) ⟨Nat.le_of_ble_eq_true rfl, Nat.le_of_ble_eq_true rfl⟩) rfl hl.1 rfl (Nat.le_of_ble_eq_true rfl) dL_refuses_549 ⟨by omega, by omega⟩ (fun H locs hH => ?_)
  refine lv_if_eq (tgt := 566) hx hb dL_refuses_552 (by decide) (fun c2 => ?_) (fun c2 => ?_)
  · have hf := it_t c2 hf
    exact w6_refuses_566 X hI hl0 hZ hH ⟨by omega, by omega⟩ (lv_sub hl [0] rfl) hf
  · have hf := it_f c2 hf
    refine lv_aload_n hx hb dL_refuses_555 rfl (lv_at hl 0 rfl) ?_
    refine lv_iconst (v := 0) hx hb dL_refuses_556 (by decide) ?_
    refine lv_iconst (v := 1) hx hb dL_refuses_557 (by decide) ?_
    obtain ⟨t3, ht3, hf⟩ := bd_o hf
    refine kh (MC := 138) (MS := 828) (As := [.ref (ad 150), .int 0, .int 1]) (rest := []) ⟨rfl, rfl⟩ X hZ hH (h6_load l hI hl0 _ 0 1 ht3) (vx_cwSW 3 hts qL_104 rfl rfl rfl (by decide +kernel) ⟨Nat.le_of_ble_eq_true rfl, Nat.le_of_ble_eq_true rfl⟩) rfl hl.1 rfl (Nat.le_of_ble_eq_true rfl) dL_refuses_558 ⟨by omega, by omega⟩ (fun H locs hH => ?_)
    refine lv_bipush (v := (-4)) hx hb dL_refuses_561 (by decide) ?_
    refine lv_icmp_ne (tgt := 570) hx hb dL_refuses_563 (by decide) (fun c4 => ?_) (fun c4 => ?_)
    · have hf := it_f c4 hf
      exact w6_refuses_570 X hI hl0 hZ hH ⟨by omega, by omega⟩ (lv_sub hl [0] rfl) hf
    · have hf := it_t c4 hf
      exact w6_refuses_566 X hI hl0 hZ hH ⟨by omega, by omega⟩ (lv_sub hl [0] rfl) hf
def f6_refuses_459 (x1 : Int32) (x2 : Int32) (y0 : Int32) (mu : Nat → Nat → Int32) : Option (Int32 × (Nat → Nat → Int32)) := if y0 = 0 then (f6_refuses_570 mu) else (if x2 = 0 then (f6_refuses_566 mu) else (Option.bind (f6_load_0 0 (21 + x1) mu) (fun t3 => if t3.1 = ((-2)) then (Option.bind (f6_release_0 0 (10 + x1) t3.2) (fun t5 => if t5.1 = ((-2)) then (Option.bind (f6_brake_0 0 (((-1)) - x1) t5.2) (fun t7 => if t7.1 = ((-2)) then (Option.bind (f6_carOf_0 t7.2 0 (10 + x1)) (fun t9 => if t9 = ((-2)) then (Option.bind (f6_carOf_0 t7.2 0 0) (fun t11 => if t11 = 1 then (f6_refuses_546 t7.2) else (Option.bind (f6_brake_0 0 1 t7.2) (fun t13 => if t13.1 = ((-4)) then (f6_refuses_546 t13.2) else (f6_refuses_570 t13.2))))) else (f6_refuses_570 t7.2))) else (f6_refuses_570 t7.2))) else (f6_refuses_570 t5.2))) else (f6_refuses_570 t3.2))))
set_option maxRecDepth 100000 in
set_option maxHeartbeats 4000000 in
theorem w6_refuses_459 {p : Program} {l : Launch} {e : Env} {s : State} {m : MethodId} {args : Array Value} {below : List Frame} {meth : Method} {c : Code} {D : va_G} {Y : cYt} {ad : Nat → Nat} {mu : Nat → Nat → Int32} (X : cX D Y p s m args meth c cL_refuses 6 RL (some .boolean)) (hI : cInj ad) (hl0 : l.stackTraces = false) (hZ : lZ ad s.heap.size s)  {x1 : Int32} {x2 : Int32} {y0 : Int32} {t : Int32 × (Nat → Nat → Int32)} {H : Heap} {locs : List Loc} (hH : cH D Y ad mu s H locs) {cells slots : Nat} (hc : cells + 3 * (11) ≤ 138 ∧ slots + 18 * (11) ≤ 828) {ls : Array Slot} (hl : lv_has ls 6 [(0, .ref (ad 150)), (1, .int x1), (2, .int x2)]) (hf : f6_refuses_459 x1 x2 y0 mu = some t) : W p l e rm6_refuses s m args below meth c H locs cells slots (MQ below (va_Qi (fun (r9 : Int32) (_ : Unit) => r9 = t.1) (fun _ t9 => cB D Y ad t.2 t9) (cA ad s.heap.size)) args s 138 828 (cA ad s.heap.size)) (F0 m 459 ls [.int y0]) := by
  obtain ⟨⟨hx, hb, hml, hown, hts⟩, hr, hlk, hK⟩ := id X
  replace hf : (if y0 = 0 then (f6_refuses_570 mu) else (if x2 = 0 then (f6_refuses_566 mu) else (Option.bind (f6_load_0 0 (21 + x1) mu) (fun t3 => if t3.1 = ((-2)) then (Option.bind (f6_release_0 0 (10 + x1) t3.2) (fun t5 => if t5.1 = ((-2)) then (Option.bind (f6_brake_0 0 (((-1)) - x1) t5.2) (fun t7 => if t7.1 = ((-2)) then (Option.bind (f6_carOf_0 t7.2 0 (10 + x1)) (fun t9 => if t9 = ((-2)) then (Option.bind (f6_carOf_0 t7.2 0 0) (fun t11 => if t11 = 1 then (f6_refuses_546 t7.2) else (Option.bind (f6_brake_0 0 1 t7.2) (fun t13 => if t13.1 = ((-4)) then (f6_refuses_546 t13.2) else (f6_refuses_570 t13.2))))) else (f6_refuses_570 t7.2))) else (f6_refuses_570 t7.2))) else (f6_refuses_570 t5.2))) else (f6_refuses_570 t3.2))))) = some t := hf
  refine lv_istore (lv' := [(4, .int y0), (0, .ref (ad 150)), (1, .int x1), (2, .int x2)]) hx hb dL_refuses_459 hl (by decide) rfl (fun ls hl => ?_)
  refine lv_iload hx hb dL_refuses_461 (lv_at hl 0 rfl) ?_
  refine lv_if_eq (tgt := 570) hx hb dL_refuses_463 (by decide) (fun c1 => ?_) (fun c1 => ?_)
  · have hf := it_t c1 hf
    exact w6_refuses_570 X hI hl0 hZ hH ⟨by omega, by omega⟩ (lv_sub hl [1] rfl) hf
  · have hf := it_f c1 hf
    refine lv_iload_n hx hb dL_refuses_466 rfl (lv_at hl 3 rfl) ?_
    refine lv_if_eq (tgt := 566) hx hb dL_refuses_467 (by decide) (fun c2 => ?_) (fun c2 => ?_)
    · have hf := it_t c2 hf
      exact w6_refuses_566 X hI hl0 hZ hH ⟨by omega, by omega⟩ (lv_sub hl [1] rfl) hf
    · have hf := it_f c2 hf
      refine lv_aload_n hx hb dL_refuses_470 rfl (lv_at hl 1 rfl) ?_
      refine lv_iconst (v := 0) hx hb dL_refuses_471 (by decide) ?_
      refine lv_bipush (v := 21) hx hb dL_refuses_472 (by decide) ?_
      refine lv_iload_n hx hb dL_refuses_474 rfl (lv_at hl 2 rfl) ?_
      refine lv_iadd hx hb dL_refuses_475 ?_
      obtain ⟨t3, ht3, hf⟩ := bd_o hf
      refine kh (MC := 138) (MS := 828) (As := [.ref (ad 150), .int 0, .int (21 + x1)]) (rest := []) ⟨rfl, rfl⟩ X hZ hH (h6_load l hI hl0 _ 0 (21 + x1) ht3) (vx_cwSW 3 hts qL_104 rfl rfl rfl (by decide +kernel) ⟨Nat.le_of_ble_eq_true rfl, Nat.le_of_ble_eq_true rfl⟩) rfl hl.1 rfl (Nat.le_of_ble_eq_true rfl) dL_refuses_476 ⟨by omega, by omega⟩ (fun H locs hH => ?_)
      refine lv_bipush (v := (-2)) hx hb dL_refuses_479 (by decide) ?_
      refine lv_icmp_ne (tgt := 570) hx hb dL_refuses_481 (by decide) (fun c4 => ?_) (fun c4 => ?_)
      · have hf := it_f c4 hf
        exact w6_refuses_570 X hI hl0 hZ hH ⟨by omega, by omega⟩ (lv_sub hl [1] rfl) hf
      · have hf := it_t c4 hf
        refine lv_aload_n hx hb dL_refuses_484 rfl (lv_at hl 1 rfl) ?_
        refine lv_iconst (v := 0) hx hb dL_refuses_485 (by decide) ?_
        refine lv_bipush (v := 10) hx hb dL_refuses_486 (by decide) ?_
        refine lv_iload_n hx hb dL_refuses_488 rfl (lv_at hl 2 rfl) ?_
        refine lv_iadd hx hb dL_refuses_489 ?_
        obtain ⟨t5, ht5, hf⟩ := bd_o hf
        refine kh (MC := 138) (MS := 828) (As := [.ref (ad 150), .int 0, .int (10 + x1)]) (rest := []) ⟨rfl, rfl⟩ X hZ hH (h6_release l hI hl0 _ 0 (10 + x1) ht5) (vx_cwSW 3 hts qL_106 rfl rfl rfl (by decide +kernel) ⟨Nat.le_of_ble_eq_true rfl, Nat.le_of_ble_eq_true rfl⟩) rfl hl.1 rfl (Nat.le_of_ble_eq_true rfl) dL_refuses_490 ⟨by omega, by omega⟩ (fun H locs hH => ?_)
        refine lv_bipush (v := (-2)) hx hb dL_refuses_493 (by decide) ?_
        refine lv_icmp_ne (tgt := 570) hx hb dL_refuses_495 (by decide) (fun c6 => ?_) (fun c6 => ?_)
        · have hf := it_f c6 hf
          exact w6_refuses_570 X hI hl0 hZ hH ⟨by omega, by omega⟩ (lv_sub hl [1] rfl) hf
        · have hf := it_t c6 hf
          refine lv_aload_n hx hb dL_refuses_498 rfl (lv_at hl 1 rfl) ?_
          refine lv_iconst (v := 0) hx hb dL_refuses_499 (by decide) ?_
          refine lv_iconst (v := (-1)) hx hb dL_refuses_500 (by decide) ?_
          refine lv_iload_n hx hb dL_refuses_501 rfl (lv_at hl 2 rfl) ?_
          refine lv_isub hx hb dL_refuses_502 ?_
          obtain ⟨t7, ht7, hf⟩ := bd_o hf
          refine kh (MC := 138) (MS := 828) (As := [.ref (ad 150), .int 0, .int (((-1)) - x1)]) (rest := []) ⟨rfl, rfl⟩ X hZ hH (h6_brake l hI hl0 _ 0 (((-1)) - x1) ht7) (vx_cwSW 3 hts qL_108 rfl rfl rfl (by decide +kernel) ⟨Nat.le_of_ble_eq_true rfl, Nat.le_of_ble_eq_true rfl⟩) rfl hl.1 rfl (Nat.le_of_ble_eq_true rfl) dL_refuses_503 ⟨by omega, by omega⟩ (fun H locs hH => ?_)
          refine lv_bipush (v := (-2)) hx hb dL_refuses_506 (by decide) ?_
          refine lv_icmp_ne (tgt := 570) hx hb dL_refuses_508 (by decide) (fun c8 => ?_) (fun c8 => ?_)
          · have hf := it_f c8 hf
            exact w6_refuses_570 X hI hl0 hZ hH ⟨by omega, by omega⟩ (lv_sub hl [1] rfl) hf
          · have hf := it_t c8 hf
            refine lv_aload_n hx hb dL_refuses_511 rfl (lv_at hl 1 rfl) ?_
            refine lv_iconst (v := 0) hx hb dL_refuses_512 (by decide) ?_
            refine lv_bipush (v := 10) hx hb dL_refuses_513 (by decide) ?_
            refine lv_iload_n hx hb dL_refuses_515 rfl (lv_at hl 2 rfl) ?_
            refine lv_iadd hx hb dL_refuses_516 ?_
            obtain ⟨t9, ht9, hf⟩ := bd_o hf
            refine kh (MC := 138) (MS := 828) (As := [.ref (ad 150), .int 0, .int (10 + x1)]) (rest := []) ⟨rfl, rfl⟩ X hZ hH (h6_carOf l hI hl0 _ 0 (10 + x1) ht9) (vx_cwSW 3 hts qL_134 rfl rfl rfl (by decide +kernel) ⟨Nat.le_of_ble_eq_true rfl, Nat.le_of_ble_eq_true rfl⟩) rfl hl.1 rfl (Nat.le_of_ble_eq_true rfl) dL_refuses_517 ⟨by omega, by omega⟩ (fun H locs hH => ?_)
            refine lv_bipush (v := (-2)) hx hb dL_refuses_520 (by decide) ?_
            refine lv_icmp_ne (tgt := 570) hx hb dL_refuses_522 (by decide) (fun c10 => ?_) (fun c10 => ?_)
            · have hf := it_f c10 hf
              exact w6_refuses_570 X hI hl0 hZ hH ⟨by omega, by omega⟩ (lv_sub hl [1] rfl) hf
            · have hf := it_t c10 hf
              refine lv_aload_n hx hb dL_refuses_525 rfl (lv_at hl 1 rfl) ?_
              refine lv_iconst (v := 0) hx hb dL_refuses_526 (by decide) ?_
              refine lv_iconst (v := 0) hx hb dL_refuses_527 (by decide) ?_
              obtain ⟨t11, ht11, hf⟩ := bd_o hf
              refine kh (MC := 138) (MS := 828) (As := [.ref (ad 150), .int 0, .int 0]) (rest := []) ⟨rfl, rfl⟩ X hZ hH (h6_carOf l hI hl0 _ 0 0 ht11) (vx_cwSW 3 hts qL_134 rfl rfl rfl (by decide +kernel) ⟨Nat.le_of_ble_eq_true rfl, Nat.le_of_ble_eq_true rfl⟩) rfl hl.1 rfl (Nat.le_of_ble_eq_true rfl) dL_refuses_528 ⟨by omega, by omega⟩ (fun H locs hH => ?_)
              refine lv_iconst (v := 1) hx hb dL_refuses_531 (by decide) ?_
              refine lv_icmp_eq (tgt := 546) hx hb dL_refuses_532 (by decide) (fun c12 => ?_) (fun c12 => ?_)
              · have hf := it_t c12 hf
                exact w6_refuses_546 X hI hl0 hZ hH ⟨by omega, by omega⟩ (lv_sub hl [1] rfl) hf
              · have hf := it_f c12 hf
                refine lv_aload_n hx hb dL_refuses_535 rfl (lv_at hl 1 rfl) ?_
                refine lv_iconst (v := 0) hx hb dL_refuses_536 (by decide) ?_
                refine lv_iconst (v := 1) hx hb dL_refuses_537 (by decide) ?_
                obtain ⟨t13, ht13, hf⟩ := bd_o hf
                refine kh (MC := 138) (MS := 828) (As := [.ref (ad 150), .int 0, .int 1]) (rest := []) ⟨rfl, rfl⟩ X hZ hH (h6_brake l hI hl0 _ 0 1 ht13) (vx_cwSW 3 hts qL_108 rfl rfl rfl (by decide +kernel) ⟨Nat.le_of_ble_eq_true rfl, Nat.le_of_ble_eq_true rfl⟩) rfl hl.1 rfl (Nat.le_of_ble_eq_true rfl) dL_refuses_538 ⟨by omega, by omega⟩ (fun H locs hH => ?_)
                refine lv_bipush (v := (-4)) hx hb dL_refuses_541 (by decide) ?_
                refine lv_icmp_ne (tgt := 570) hx hb dL_refuses_543 (by decide) (fun c14 => ?_) (fun c14 => ?_)
                · have hf := it_f c14 hf
                  exact w6_refuses_570 X hI hl0 hZ hH ⟨by omega, by omega⟩ (lv_sub hl [1] rfl) hf
                · have hf := it_t c14 hf
                  exact w6_refuses_546 X hI hl0 hZ hH ⟨by omega, by omega⟩ (lv_sub hl [1] rfl) hf
def f6_refuses_458 (x1 : Int32) (x2 : Int32) (mu : Nat → Nat → Int32) : Option (Int32 × (Nat → Nat → Int32)) := f6_refuses_459 x1 x2 0 mu
set_option maxRecDepth 100000 in
set_option maxHeartbeats 4000000 in
theorem w6_refuses_458 {p : Program} {l : Launch} {e : Env} {s : State} {m : MethodId} {args : Array Value} {below : List Frame} {meth : Method} {c : Code} {D : va_G} {Y : cYt} {ad : Nat → Nat} {mu : Nat → Nat → Int32} (X : cX D Y p s m args meth c cL_refuses 6 RL (some .boolean)) (hI : cInj ad) (hl0 : l.stackTraces = false) (hZ : lZ ad s.heap.size s)  {x1 : Int32} {x2 : Int32} {t : Int32 × (Nat → Nat → Int32)} {H : Heap} {locs : List Loc} (hH : cH D Y ad mu s H locs) {cells slots : Nat} (hc : cells + 3 * (11) ≤ 138 ∧ slots + 18 * (11) ≤ 828) {ls : Array Slot} (hl : lv_has ls 6 [(0, .ref (ad 150)), (1, .int x1), (2, .int x2)]) (hf : f6_refuses_458 x1 x2 mu = some t) : W p l e rm6_refuses s m args below meth c H locs cells slots (MQ below (va_Qi (fun (r9 : Int32) (_ : Unit) => r9 = t.1) (fun _ t9 => cB D Y ad t.2 t9) (cA ad s.heap.size)) args s 138 828 (cA ad s.heap.size)) (F0 m 458 ls []) := by
  obtain ⟨⟨hx, hb, hml, hown, hts⟩, hr, hlk, hK⟩ := id X
  replace hf : (f6_refuses_459 x1 x2 0 mu) = some t := hf
  refine lv_iconst (v := 0) hx hb dL_refuses_458 (by decide) ?_
  exact w6_refuses_459 X hI hl0 hZ hH ⟨by omega, by omega⟩ (lv_sub hl [0, 1, 2] rfl) hf
def f6_refuses_119 (x1 : Int32) (x2 : Int32) (x3 : Int32) (mu : Nat → Nat → Int32) : Option (Int32 × (Nat → Nat → Int32)) := Option.bind (f6_load_0 x3 0 mu) (fun t1 => if t1.1 = ((-3)) then (Option.bind (f6_release_0 x3 10 t1.2) (fun t3 => if t3.1 = ((-3)) then (Option.bind (f6_brake_0 x3 0 t3.2) (fun t5 => if t5.1 = ((-3)) then (Option.bind (f6_pull_0 x3 t5.2) (fun t7 => if t7.1 = ((-3)) then (Option.bind (f6_set_0 (3 + x1) 0 t7.2) (fun t9 => if t9.1 = ((-3)) then (Option.bind (f6_set_0 0 (6 + x1) t9.2) (fun t11 => if t11.1 = ((-2)) then (Option.bind (f6_set_0 1 0 t11.2) (fun t13 => if t13.1 = ((-2)) then (Option.bind (f6_set_0 2 (((-1)) - x1) t13.2) (fun t15 => if t15.1 = ((-2)) then (Option.bind (f6_run_0 0 t15.2) (fun t17 => if t17.1 = ((-2)) then (Option.bind (f6_run_0 (61 + x1) t17.2) (fun t19 => if t19.1 = ((-2)) then (Option.bind (f6_append_0 (32 - x1) t19.2) (fun t21 => if t21.1 = ((-2)) then (Option.bind (f6_append_0 (127 + x1) t21.2) (fun t23 => if t23.1 = ((-2)) then (Option.bind (f6_keep_0 (2 + x1) t23.2) (fun t25 => if t25.1 = ((-2)) then (Option.bind (f6_goBack_0 (((-1)) - x1) t25.2) (fun t27 => if t27.1 = ((-2)) then (Option.bind (f6_section_0 t27.2 (((-1)) - x1) 9) (fun t29 => if t29 = ((-3)) then (Option.bind (f6_section_0 t27.2 3 (5 + x1)) (fun t31 => if t31 = ((-2)) then (Option.bind (f6_carOf_0 t27.2 x3 99) (fun t33 => if t33 = ((-3)) then (Option.bind (f6_cars_0 t27.2 (5 + x1)) (fun t35 => if t35 = ((-2)) then (Option.bind (f6_rolling_0 t27.2 (((-1)) - x1)) (fun t37 => if t37 = ((-2)) then (Option.bind (f6_count_0 t27.2 (14 + x1)) (fun t39 => if t39 = ((-2)) then (Option.bind (f6_refusal_0 t27.2 x3 1) (fun t41 => if t41 = ((-3)) then (Option.bind (f6_ifAlone_0 (21 + x1) 0 0 t27.2) (fun t43 => if t43.1 = ((-2)) then (Option.bind (f6_ifAlone_0 0 (((-1)) - x1) 0 t43.2) (fun t45 => if t45.1 = ((-2)) then (Option.bind (f6_leastBrake_0 (((-1)) - x1) t45.2) (fun t47 => if t47.1 = ((-2)) then (Option.bind (f6_ifRun_0 0 0 t47.2) (fun t49 => if t49.1 = ((-2)) then (Option.bind (f6_ifRun_0 (201 + x1) 0 t49.2) (fun t51 => if t51.1 = ((-2)) then (Option.bind (f6_ifRun_0 1 (5 + x1) t51.2) (fun t53 => if t53.1 = ((-2)) then (f6_refuses_459 x1 x2 1 t53.2) else (f6_refuses_458 x1 x2 t53.2))) else (f6_refuses_458 x1 x2 t51.2))) else (f6_refuses_458 x1 x2 t49.2))) else (f6_refuses_458 x1 x2 t47.2))) else (f6_refuses_458 x1 x2 t45.2))) else (f6_refuses_458 x1 x2 t43.2))) else (f6_refuses_458 x1 x2 t27.2))) else (f6_refuses_458 x1 x2 t27.2))) else (f6_refuses_458 x1 x2 t27.2))) else (f6_refuses_458 x1 x2 t27.2))) else (f6_refuses_458 x1 x2 t27.2))) else (f6_refuses_458 x1 x2 t27.2))) else (f6_refuses_458 x1 x2 t27.2))) else (f6_refuses_458 x1 x2 t27.2))) else (f6_refuses_458 x1 x2 t25.2))) else (f6_refuses_458 x1 x2 t23.2))) else (f6_refuses_458 x1 x2 t21.2))) else (f6_refuses_458 x1 x2 t19.2))) else (f6_refuses_458 x1 x2 t17.2))) else (f6_refuses_458 x1 x2 t15.2))) else (f6_refuses_458 x1 x2 t13.2))) else (f6_refuses_458 x1 x2 t11.2))) else (f6_refuses_458 x1 x2 t9.2))) else (f6_refuses_458 x1 x2 t7.2))) else (f6_refuses_458 x1 x2 t5.2))) else (f6_refuses_458 x1 x2 t3.2))) else (f6_refuses_458 x1 x2 t1.2))
set_option maxRecDepth 100000 in
set_option maxHeartbeats 4000000 in
theorem w6_refuses_119 {p : Program} {l : Launch} {e : Env} {s : State} {m : MethodId} {args : Array Value} {below : List Frame} {meth : Method} {c : Code} {D : va_G} {Y : cYt} {ad : Nat → Nat} {mu : Nat → Nat → Int32} (X : cX D Y p s m args meth c cL_refuses 6 RL (some .boolean)) (hI : cInj ad) (hl0 : l.stackTraces = false) (hZ : lZ ad s.heap.size s)  {x1 : Int32} {x2 : Int32} {x3 : Int32} {t : Int32 × (Nat → Nat → Int32)} {H : Heap} {locs : List Loc} (hH : cH D Y ad mu s H locs) {cells slots : Nat} (hc : cells + 3 * (38) ≤ 138 ∧ slots + 18 * (38) ≤ 828) {ls : Array Slot} (hl : lv_has ls 6 [(0, .ref (ad 150)), (1, .int x1), (2, .int x2), (3, .int x3)]) (hf : f6_refuses_119 x1 x2 x3 mu = some t) : W p l e rm6_refuses s m args below meth c H locs cells slots (MQ below (va_Qi (fun (r9 : Int32) (_ : Unit) => r9 = t.1) (fun _ t9 => cB D Y ad t.2 t9) (cA ad s.heap.size)) args s 138 828 (cA ad s.heap.size)) (F0 m 119 ls []) := by
  obtain ⟨⟨hx, hb, hml, hown, hts⟩, hr, hlk, hK⟩ := id X
  replace hf : (Option.bind (f6_load_0 x3 0 mu) (fun t1 => if t1.1 = ((-3)) then (Option.bind (f6_release_0 x3 10 t1.2) (fun t3 => if t3.1 = ((-3)) then (Option.bind (f6_brake_0 x3 0 t3.2) (fun t5 => if t5.1 = ((-3)) then (Option.bind (f6_pull_0 x3 t5.2) (fun t7 => if t7.1 = ((-3)) then (Option.bind (f6_set_0 (3 + x1) 0 t7.2) (fun t9 => if t9.1 = ((-3)) then (Option.bind (f6_set_0 0 (6 + x1) t9.2) (fun t11 => if t11.1 = ((-2)) then (Option.bind (f6_set_0 1 0 t11.2) (fun t13 => if t13.1 = ((-2)) then (Option.bind (f6_set_0 2 (((-1)) - x1) t13.2) (fun t15 => if t15.1 = ((-2)) then (Option.bind (f6_run_0 0 t15.2) (fun t17 => if t17.1 = ((-2)) then (Option.bind (f6_run_0 (61 + x1) t17.2) (fun t19 => if t19.1 = ((-2)) then (Option.bind (f6_append_0 (32 - x1) t19.2) (fun t21 => if t21.1 = ((-2)) then (Option.bind (f6_append_0 (127 + x1) t21.2) (fun t23 => if t23.1 = ((-2)) then (Option.bind (f6_keep_0 (2 + x1) t23.2) (fun t25 => if t25.1 = ((-2)) then (Option.bind (f6_goBack_0 (((-1)) - x1) t25.2) (fun t27 => if t27.1 = ((-2)) then (Option.bind (f6_section_0 t27.2 (((-1)) - x1) 9) (fun t29 => if t29 = ((-3)) then (Option.bind (f6_section_0 t27.2 3 (5 + x1)) (fun t31 => if t31 = ((-2)) then (Option.bind (f6_carOf_0 t27.2 x3 99) (fun t33 => if t33 = ((-3)) then (Option.bind (f6_cars_0 t27.2 (5 + x1)) (fun t35 => if t35 = ((-2)) then (Option.bind (f6_rolling_0 t27.2 (((-1)) - x1)) (fun t37 => if t37 = ((-2)) then (Option.bind (f6_count_0 t27.2 (14 + x1)) (fun t39 => if t39 = ((-2)) then (Option.bind (f6_refusal_0 t27.2 x3 1) (fun t41 => if t41 = ((-3)) then (Option.bind (f6_ifAlone_0 (21 + x1) 0 0 t27.2) (fun t43 => if t43.1 = ((-2)) then (Option.bind (f6_ifAlone_0 0 (((-1)) - x1) 0 t43.2) (fun t45 => if t45.1 = ((-2)) then (Option.bind (f6_leastBrake_0 (((-1)) - x1) t45.2) (fun t47 => if t47.1 = ((-2)) then (Option.bind (f6_ifRun_0 0 0 t47.2) (fun t49 => if t49.1 = ((-2)) then (Option.bind (f6_ifRun_0 (201 + x1) 0 t49.2) (fun t51 => if t51.1 = ((-2)) then (Option.bind (f6_ifRun_0 1 (5 + x1) t51.2) (fun t53 => if t53.1 = ((-2)) then (f6_refuses_459 x1 x2 1 t53.2) else (f6_refuses_458 x1 x2 t53.2))) else (f6_refuses_458 x1 x2 t51.2))) else (f6_refuses_458 x1 x2 t49.2))) else (f6_refuses_458 x1 x2 t47.2))) else (f6_refuses_458 x1 x2 t45.2))) else (f6_refuses_458 x1 x2 t43.2))) else (f6_refuses_458 x1 x2 t27.2))) else (f6_refuses_458 x1 x2 t27.2))) else (f6_refuses_458 x1 x2 t27.2))) else (f6_refuses_458 x1 x2 t27.2))) else (f6_refuses_458 x1 x2 t27.2))) else (f6_refuses_458 x1 x2 t27.2))) else (f6_refuses_458 x1 x2 t27.2))) else (f6_refuses_458 x1 x2 t27.2))) else (f6_refuses_458 x1 x2 t25.2))) else (f6_refuses_458 x1 x2 t23.2))) else (f6_refuses_458 x1 x2 t21.2))) else (f6_refuses_458 x1 x2 t19.2))) else (f6_refuses_458 x1 x2 t17.2))) else (f6_refuses_458 x1 x2 t15.2))) else (f6_refuses_458 x1 x2 t13.2))) else (f6_refuses_458 x1 x2 t11.2))) else (f6_refuses_458 x1 x2 t9.2))) else (f6_refuses_458 x1 x2 t7.2))) else (f6_refuses_458 x1 x2 t5.2))) else (f6_refuses_458 x1 x2 t3.2))) else (f6_refuses_458 x1 x2 t1.2))) = some t := hf
  refine lv_aload_n hx hb dL_refuses_119 rfl (lv_at hl 0 rfl) ?_
  refine lv_iload_n hx hb dL_refuses_120 rfl (lv_at hl 3 rfl) ?_
  refine lv_iconst (v := 0) hx hb dL_refuses_121 (by decide) ?_
  obtain ⟨t1, ht1, hf⟩ := bd_o hf
  refine kh (MC := 138) (MS := 828) (As := [.ref (ad 150), .int x3, .int 0]) (rest := []) ⟨rfl, rfl⟩ X hZ hH (h6_load l hI hl0 _ x3 0 ht1) (vx_cwSW 3 hts qL_104 rfl rfl rfl (by decide +kernel) ⟨Nat.le_of_ble_eq_true rfl, Nat.le_of_ble_eq_true rfl⟩) rfl hl.1 rfl (Nat.le_of_ble_eq_true rfl) dL_refuses_122 ⟨by omega, by omega⟩ (fun H locs hH => ?_)
  refine lv_bipush (v := (-3)) hx hb dL_refuses_125 (by decide) ?_
  refine lv_icmp_ne (tgt := 458) hx hb dL_refuses_127 (by decide) (fun c2 => ?_) (fun c2 => ?_)
  · have hf := it_f c2 hf
    exact w6_refuses_458 X hI hl0 hZ hH ⟨by omega, by omega⟩ (lv_sub hl [0, 1, 2] rfl) hf
  · have hf := it_t c2 hf
    refine lv_aload_n hx hb dL_refuses_130 rfl (lv_at hl 0 rfl) ?_
    refine lv_iload_n hx hb dL_refuses_131 rfl (lv_at hl 3 rfl) ?_
    refine lv_bipush (v := 10) hx hb dL_refuses_132 (by decide) ?_
    obtain ⟨t3, ht3, hf⟩ := bd_o hf
    refine kh (MC := 138) (MS := 828) (As := [.ref (ad 150), .int x3, .int 10]) (rest := []) ⟨rfl, rfl⟩ X hZ hH (h6_release l hI hl0 _ x3 10 ht3) (vx_cwSW 3 hts qL_106 rfl rfl rfl (by decide +kernel) ⟨Nat.le_of_ble_eq_true rfl, Nat.le_of_ble_eq_true rfl⟩) rfl hl.1 rfl (Nat.le_of_ble_eq_true rfl) dL_refuses_134 ⟨by omega, by omega⟩ (fun H locs hH => ?_)
    refine lv_bipush (v := (-3)) hx hb dL_refuses_137 (by decide) ?_
    refine lv_icmp_ne (tgt := 458) hx hb dL_refuses_139 (by decide) (fun c4 => ?_) (fun c4 => ?_)
    · have hf := it_f c4 hf
      exact w6_refuses_458 X hI hl0 hZ hH ⟨by omega, by omega⟩ (lv_sub hl [0, 1, 2] rfl) hf
    · have hf := it_t c4 hf
      refine lv_aload_n hx hb dL_refuses_142 rfl (lv_at hl 0 rfl) ?_
      refine lv_iload_n hx hb dL_refuses_143 rfl (lv_at hl 3 rfl) ?_
      refine lv_iconst (v := 0) hx hb dL_refuses_144 (by decide) ?_
      obtain ⟨t5, ht5, hf⟩ := bd_o hf
      refine kh (MC := 138) (MS := 828) (As := [.ref (ad 150), .int x3, .int 0]) (rest := []) ⟨rfl, rfl⟩ X hZ hH (h6_brake l hI hl0 _ x3 0 ht5) (vx_cwSW 3 hts qL_108 rfl rfl rfl (by decide +kernel) ⟨Nat.le_of_ble_eq_true rfl, Nat.le_of_ble_eq_true rfl⟩) rfl hl.1 rfl (Nat.le_of_ble_eq_true rfl) dL_refuses_145 ⟨by omega, by omega⟩ (fun H locs hH => ?_)
      refine lv_bipush (v := (-3)) hx hb dL_refuses_148 (by decide) ?_
      refine lv_icmp_ne (tgt := 458) hx hb dL_refuses_150 (by decide) (fun c6 => ?_) (fun c6 => ?_)
      · have hf := it_f c6 hf
        exact w6_refuses_458 X hI hl0 hZ hH ⟨by omega, by omega⟩ (lv_sub hl [0, 1, 2] rfl) hf
      · have hf := it_t c6 hf
        refine lv_aload_n hx hb dL_refuses_153 rfl (lv_at hl 0 rfl) ?_
        refine lv_iload_n hx hb dL_refuses_154 rfl (lv_at hl 3 rfl) ?_
        obtain ⟨t7, ht7, hf⟩ := bd_o hf
        refine kh (MC := 138) (MS := 828) (As := [.ref (ad 150), .int x3]) (rest := []) ⟨rfl, rfl⟩ X hZ hH (h6_pull l hI hl0 _ x3 ht7) (vx_cwSW 2 hts qL_110 rfl rfl rfl (by decide +kernel) ⟨Nat.le_of_ble_eq_true rfl, Nat.le_of_ble_eq_true rfl⟩) rfl hl.1 rfl (Nat.le_of_ble_eq_true rfl) dL_refuses_155 ⟨by omega, by omega⟩ (fun H locs hH => ?_)
        refine lv_bipush (v := (-3)) hx hb dL_refuses_158 (by decide) ?_
        refine lv_icmp_ne (tgt := 458) hx hb dL_refuses_160 (by decide) (fun c8 => ?_) (fun c8 => ?_)
        · have hf := it_f c8 hf
          exact w6_refuses_458 X hI hl0 hZ hH ⟨by omega, by omega⟩ (lv_sub hl [0, 1, 2] rfl) hf
        · have hf := it_t c8 hf
          refine lv_aload_n hx hb dL_refuses_163 rfl (lv_at hl 0 rfl) ?_
          refine lv_iconst (v := 3) hx hb dL_refuses_164 (by decide) ?_
          refine lv_iload_n hx hb dL_refuses_165 rfl (lv_at hl 1 rfl) ?_
          refine lv_iadd hx hb dL_refuses_166 ?_
          refine lv_iconst (v := 0) hx hb dL_refuses_167 (by decide) ?_
          obtain ⟨t9, ht9, hf⟩ := bd_o hf
          refine kh (MC := 138) (MS := 828) (As := [.ref (ad 150), .int (3 + x1), .int 0]) (rest := []) ⟨rfl, rfl⟩ X hZ hH (h6_set l hI hl0 _ (3 + x1) 0 ht9) (vx_cwSW 3 hts qL_112 rfl rfl rfl (by decide +kernel) ⟨Nat.le_of_ble_eq_true rfl, Nat.le_of_ble_eq_true rfl⟩) rfl hl.1 rfl (Nat.le_of_ble_eq_true rfl) dL_refuses_168 ⟨by omega, by omega⟩ (fun H locs hH => ?_)
          refine lv_bipush (v := (-3)) hx hb dL_refuses_171 (by decide) ?_
          refine lv_icmp_ne (tgt := 458) hx hb dL_refuses_173 (by decide) (fun c10 => ?_) (fun c10 => ?_)
          · have hf := it_f c10 hf
            exact w6_refuses_458 X hI hl0 hZ hH ⟨by omega, by omega⟩ (lv_sub hl [0, 1, 2] rfl) hf
          · have hf := it_t c10 hf
            refine lv_aload_n hx hb dL_refuses_176 rfl (lv_at hl 0 rfl) ?_
            refine lv_iconst (v := 0) hx hb dL_refuses_177 (by decide) ?_
            refine lv_bipush (v := 6) hx hb dL_refuses_178 (by decide) ?_
            refine lv_iload_n hx hb dL_refuses_180 rfl (lv_at hl 1 rfl) ?_
            refine lv_iadd hx hb dL_refuses_181 ?_
            obtain ⟨t11, ht11, hf⟩ := bd_o hf
            refine kh (MC := 138) (MS := 828) (As := [.ref (ad 150), .int 0, .int (6 + x1)]) (rest := []) ⟨rfl, rfl⟩ X hZ hH (h6_set l hI hl0 _ 0 (6 + x1) ht11) (vx_cwSW 3 hts qL_112 rfl rfl rfl (by decide +kernel) ⟨Nat.le_of_ble_eq_true rfl, Nat.le_of_ble_eq_true rfl⟩) rfl hl.1 rfl (Nat.le_of_ble_eq_true rfl) dL_refuses_182 ⟨by omega, by omega⟩ (fun H locs hH => ?_)
            refine lv_bipush (v := (-2)) hx hb dL_refuses_185 (by decide) ?_
            refine lv_icmp_ne (tgt := 458) hx hb dL_refuses_187 (by decide) (fun c12 => ?_) (fun c12 => ?_)
            · have hf := it_f c12 hf
              exact w6_refuses_458 X hI hl0 hZ hH ⟨by omega, by omega⟩ (lv_sub hl [0, 1, 2] rfl) hf
            · have hf := it_t c12 hf
              refine lv_aload_n hx hb dL_refuses_190 rfl (lv_at hl 0 rfl) ?_
              refine lv_iconst (v := 1) hx hb dL_refuses_191 (by decide) ?_
              refine lv_iconst (v := 0) hx hb dL_refuses_192 (by decide) ?_
              obtain ⟨t13, ht13, hf⟩ := bd_o hf
              refine kh (MC := 138) (MS := 828) (As := [.ref (ad 150), .int 1, .int 0]) (rest := []) ⟨rfl, rfl⟩ X hZ hH (h6_set l hI hl0 _ 1 0 ht13) (vx_cwSW 3 hts qL_112 rfl rfl rfl (by decide +kernel) ⟨Nat.le_of_ble_eq_true rfl, Nat.le_of_ble_eq_true rfl⟩) rfl hl.1 rfl (Nat.le_of_ble_eq_true rfl) dL_refuses_193 ⟨by omega, by omega⟩ (fun H locs hH => ?_)
              refine lv_bipush (v := (-2)) hx hb dL_refuses_196 (by decide) ?_
              refine lv_icmp_ne (tgt := 458) hx hb dL_refuses_198 (by decide) (fun c14 => ?_) (fun c14 => ?_)
              · have hf := it_f c14 hf
                exact w6_refuses_458 X hI hl0 hZ hH ⟨by omega, by omega⟩ (lv_sub hl [0, 1, 2] rfl) hf
              · have hf := it_t c14 hf
                refine lv_aload_n hx hb dL_refuses_201 rfl (lv_at hl 0 rfl) ?_
                refine lv_iconst (v := 2) hx hb dL_refuses_202 (by decide) ?_
                refine lv_iconst (v := (-1)) hx hb dL_refuses_203 (by decide) ?_
                refine lv_iload_n hx hb dL_refuses_204 rfl (lv_at hl 1 rfl) ?_
                refine lv_isub hx hb dL_refuses_205 ?_
                obtain ⟨t15, ht15, hf⟩ := bd_o hf
                refine kh (MC := 138) (MS := 828) (As := [.ref (ad 150), .int 2, .int (((-1)) - x1)]) (rest := []) ⟨rfl, rfl⟩ X hZ hH (h6_set l hI hl0 _ 2 (((-1)) - x1) ht15) (vx_cwSW 3 hts qL_112 rfl rfl rfl (by decide +kernel) ⟨Nat.le_of_ble_eq_true rfl, Nat.le_of_ble_eq_true rfl⟩) rfl hl.1 rfl (Nat.le_of_ble_eq_true rfl) dL_refuses_206 ⟨by omega, by omega⟩ (fun H locs hH => ?_)
                refine lv_bipush (v := (-2)) hx hb dL_refuses_209 (by decide) ?_
                refine lv_icmp_ne (tgt := 458) hx hb dL_refuses_211 (by decide) (fun c16 => ?_) (fun c16 => ?_)
                · have hf := it_f c16 hf
                  exact w6_refuses_458 X hI hl0 hZ hH ⟨by omega, by omega⟩ (lv_sub hl [0, 1, 2] rfl) hf
                · have hf := it_t c16 hf
                  refine lv_aload_n hx hb dL_refuses_214 rfl (lv_at hl 0 rfl) ?_
                  refine lv_iconst (v := 0) hx hb dL_refuses_215 (by decide) ?_
                  obtain ⟨t17, ht17, hf⟩ := bd_o hf
                  refine kh (MC := 138) (MS := 828) (As := [.ref (ad 150), .int 0]) (rest := []) ⟨rfl, rfl⟩ X hZ hH (h6_run l hI hl0 _ 0 ht17) (vx_cwSW 2 hts qL_130 rfl rfl rfl (by decide +kernel) ⟨Nat.le_of_ble_eq_true rfl, Nat.le_of_ble_eq_true rfl⟩) rfl hl.1 rfl (Nat.le_of_ble_eq_true rfl) dL_refuses_216 ⟨by omega, by omega⟩ (fun H locs hH => ?_)
                  refine lv_bipush (v := (-2)) hx hb dL_refuses_219 (by decide) ?_
                  refine lv_icmp_ne (tgt := 458) hx hb dL_refuses_221 (by decide) (fun c18 => ?_) (fun c18 => ?_)
                  · have hf := it_f c18 hf
                    exact w6_refuses_458 X hI hl0 hZ hH ⟨by omega, by omega⟩ (lv_sub hl [0, 1, 2] rfl) hf
                  · have hf := it_t c18 hf
                    refine lv_aload_n hx hb dL_refuses_224 rfl (lv_at hl 0 rfl) ?_
                    refine lv_bipush (v := 61) hx hb dL_refuses_225 (by decide) ?_
                    refine lv_iload_n hx hb dL_refuses_227 rfl (lv_at hl 1 rfl) ?_
                    refine lv_iadd hx hb dL_refuses_228 ?_
                    obtain ⟨t19, ht19, hf⟩ := bd_o hf
                    refine kh (MC := 138) (MS := 828) (As := [.ref (ad 150), .int (61 + x1)]) (rest := []) ⟨rfl, rfl⟩ X hZ hH (h6_run l hI hl0 _ (61 + x1) ht19) (vx_cwSW 2 hts qL_130 rfl rfl rfl (by decide +kernel) ⟨Nat.le_of_ble_eq_true rfl, Nat.le_of_ble_eq_true rfl⟩) rfl hl.1 rfl (Nat.le_of_ble_eq_true rfl) dL_refuses_229 ⟨by omega, by omega⟩ (fun H locs hH => ?_)
                    refine lv_bipush (v := (-2)) hx hb dL_refuses_232 (by decide) ?_
                    refine lv_icmp_ne (tgt := 458) hx hb dL_refuses_234 (by decide) (fun c20 => ?_) (fun c20 => ?_)
                    · have hf := it_f c20 hf
                      exact w6_refuses_458 X hI hl0 hZ hH ⟨by omega, by omega⟩ (lv_sub hl [0, 1, 2] rfl) hf
                    · have hf := it_t c20 hf
                      refine lv_aload_n hx hb dL_refuses_237 rfl (lv_at hl 0 rfl) ?_
                      refine lv_bipush (v := 32) hx hb dL_refuses_238 (by decide) ?_
                      refine lv_iload_n hx hb dL_refuses_240 rfl (lv_at hl 1 rfl) ?_
                      refine lv_isub hx hb dL_refuses_241 ?_
                      obtain ⟨t21, ht21, hf⟩ := bd_o hf
                      refine kh (MC := 138) (MS := 828) (As := [.ref (ad 150), .int (32 - x1)]) (rest := []) ⟨rfl, rfl⟩ X hZ hH (h6_append l hI hl0 _ (32 - x1) ht21) (vx_cwSW 2 hts qL_123 rfl rfl rfl (by decide +kernel) ⟨Nat.le_of_ble_eq_true rfl, Nat.le_of_ble_eq_true rfl⟩) rfl hl.1 rfl (Nat.le_of_ble_eq_true rfl) dL_refuses_242 ⟨by omega, by omega⟩ (fun H locs hH => ?_)
                      refine lv_bipush (v := (-2)) hx hb dL_refuses_245 (by decide) ?_
                      refine lv_icmp_ne (tgt := 458) hx hb dL_refuses_247 (by decide) (fun c22 => ?_) (fun c22 => ?_)
                      · have hf := it_f c22 hf
                        exact w6_refuses_458 X hI hl0 hZ hH ⟨by omega, by omega⟩ (lv_sub hl [0, 1, 2] rfl) hf
                      · have hf := it_t c22 hf
                        refine lv_aload_n hx hb dL_refuses_250 rfl (lv_at hl 0 rfl) ?_
                        refine lv_bipush (v := 127) hx hb dL_refuses_251 (by decide) ?_
                        refine lv_iload_n hx hb dL_refuses_253 rfl (lv_at hl 1 rfl) ?_
                        refine lv_iadd hx hb dL_refuses_254 ?_
                        obtain ⟨t23, ht23, hf⟩ := bd_o hf
                        refine kh (MC := 138) (MS := 828) (As := [.ref (ad 150), .int (127 + x1)]) (rest := []) ⟨rfl, rfl⟩ X hZ hH (h6_append l hI hl0 _ (127 + x1) ht23) (vx_cwSW 2 hts qL_123 rfl rfl rfl (by decide +kernel) ⟨Nat.le_of_ble_eq_true rfl, Nat.le_of_ble_eq_true rfl⟩) rfl hl.1 rfl (Nat.le_of_ble_eq_true rfl) dL_refuses_255 ⟨by omega, by omega⟩ (fun H locs hH => ?_)
                        refine lv_bipush (v := (-2)) hx hb dL_refuses_258 (by decide) ?_
                        refine lv_icmp_ne (tgt := 458) hx hb dL_refuses_260 (by decide) (fun c24 => ?_) (fun c24 => ?_)
                        · have hf := it_f c24 hf
                          exact w6_refuses_458 X hI hl0 hZ hH ⟨by omega, by omega⟩ (lv_sub hl [0, 1, 2] rfl) hf
                        · have hf := it_t c24 hf
                          refine lv_aload_n hx hb dL_refuses_263 rfl (lv_at hl 0 rfl) ?_
                          refine lv_iconst (v := 2) hx hb dL_refuses_264 (by decide) ?_
                          refine lv_iload_n hx hb dL_refuses_265 rfl (lv_at hl 1 rfl) ?_
                          refine lv_iadd hx hb dL_refuses_266 ?_
                          obtain ⟨t25, ht25, hf⟩ := bd_o hf
                          refine kh (MC := 138) (MS := 828) (As := [.ref (ad 150), .int (2 + x1)]) (rest := []) ⟨rfl, rfl⟩ X hZ hH (h6_keep l hI hl0 _ (2 + x1) ht25) (vx_cwSW 2 hts qL_116 rfl rfl rfl (by decide +kernel) ⟨Nat.le_of_ble_eq_true rfl, Nat.le_of_ble_eq_true rfl⟩) rfl hl.1 rfl (Nat.le_of_ble_eq_true rfl) dL_refuses_267 ⟨by omega, by omega⟩ (fun H locs hH => ?_)
                          refine lv_bipush (v := (-2)) hx hb dL_refuses_270 (by decide) ?_
                          refine lv_icmp_ne (tgt := 458) hx hb dL_refuses_272 (by decide) (fun c26 => ?_) (fun c26 => ?_)
                          · have hf := it_f c26 hf
                            exact w6_refuses_458 X hI hl0 hZ hH ⟨by omega, by omega⟩ (lv_sub hl [0, 1, 2] rfl) hf
                          · have hf := it_t c26 hf
                            refine lv_aload_n hx hb dL_refuses_275 rfl (lv_at hl 0 rfl) ?_
                            refine lv_iconst (v := (-1)) hx hb dL_refuses_276 (by decide) ?_
                            refine lv_iload_n hx hb dL_refuses_277 rfl (lv_at hl 1 rfl) ?_
                            refine lv_isub hx hb dL_refuses_278 ?_
                            obtain ⟨t27, ht27, hf⟩ := bd_o hf
                            refine kh (MC := 138) (MS := 828) (As := [.ref (ad 150), .int (((-1)) - x1)]) (rest := []) ⟨rfl, rfl⟩ X hZ hH (h6_goBack l hI hl0 _ (((-1)) - x1) ht27) (vx_cwSW 2 hts qL_118 rfl rfl rfl (by decide +kernel) ⟨Nat.le_of_ble_eq_true rfl, Nat.le_of_ble_eq_true rfl⟩) rfl hl.1 rfl (Nat.le_of_ble_eq_true rfl) dL_refuses_279 ⟨by omega, by omega⟩ (fun H locs hH => ?_)
                            refine lv_bipush (v := (-2)) hx hb dL_refuses_282 (by decide) ?_
                            refine lv_icmp_ne (tgt := 458) hx hb dL_refuses_284 (by decide) (fun c28 => ?_) (fun c28 => ?_)
                            · have hf := it_f c28 hf
                              exact w6_refuses_458 X hI hl0 hZ hH ⟨by omega, by omega⟩ (lv_sub hl [0, 1, 2] rfl) hf
                            · have hf := it_t c28 hf
                              refine lv_aload_n hx hb dL_refuses_287 rfl (lv_at hl 0 rfl) ?_
                              refine lv_iconst (v := (-1)) hx hb dL_refuses_288 (by decide) ?_
                              refine lv_iload_n hx hb dL_refuses_289 rfl (lv_at hl 1 rfl) ?_
                              refine lv_isub hx hb dL_refuses_290 ?_
                              refine lv_bipush (v := 9) hx hb dL_refuses_291 (by decide) ?_
                              obtain ⟨t29, ht29, hf⟩ := bd_o hf
                              refine kh (MC := 138) (MS := 828) (As := [.ref (ad 150), .int (((-1)) - x1), .int 9]) (rest := []) ⟨rfl, rfl⟩ X hZ hH (h6_section l hI hl0 _ (((-1)) - x1) 9 ht29) (vx_cwSW 3 hts qL_136 rfl rfl rfl (by decide +kernel) ⟨Nat.le_of_ble_eq_true rfl, Nat.le_of_ble_eq_true rfl⟩) rfl hl.1 rfl (Nat.le_of_ble_eq_true rfl) dL_refuses_293 ⟨by omega, by omega⟩ (fun H locs hH => ?_)
                              refine lv_bipush (v := (-3)) hx hb dL_refuses_296 (by decide) ?_
                              refine lv_icmp_ne (tgt := 458) hx hb dL_refuses_298 (by decide) (fun c30 => ?_) (fun c30 => ?_)
                              · have hf := it_f c30 hf
                                exact w6_refuses_458 X hI hl0 hZ hH ⟨by omega, by omega⟩ (lv_sub hl [0, 1, 2] rfl) hf
                              · have hf := it_t c30 hf
                                refine lv_aload_n hx hb dL_refuses_301 rfl (lv_at hl 0 rfl) ?_
                                refine lv_iconst (v := 3) hx hb dL_refuses_302 (by decide) ?_
                                refine lv_iconst (v := 5) hx hb dL_refuses_303 (by decide) ?_
                                refine lv_iload_n hx hb dL_refuses_304 rfl (lv_at hl 1 rfl) ?_
                                refine lv_iadd hx hb dL_refuses_305 ?_
                                obtain ⟨t31, ht31, hf⟩ := bd_o hf
                                refine kh (MC := 138) (MS := 828) (As := [.ref (ad 150), .int 3, .int (5 + x1)]) (rest := []) ⟨rfl, rfl⟩ X hZ hH (h6_section l hI hl0 _ 3 (5 + x1) ht31) (vx_cwSW 3 hts qL_136 rfl rfl rfl (by decide +kernel) ⟨Nat.le_of_ble_eq_true rfl, Nat.le_of_ble_eq_true rfl⟩) rfl hl.1 rfl (Nat.le_of_ble_eq_true rfl) dL_refuses_306 ⟨by omega, by omega⟩ (fun H locs hH => ?_)
                                refine lv_bipush (v := (-2)) hx hb dL_refuses_309 (by decide) ?_
                                refine lv_icmp_ne (tgt := 458) hx hb dL_refuses_311 (by decide) (fun c32 => ?_) (fun c32 => ?_)
                                · have hf := it_f c32 hf
                                  exact w6_refuses_458 X hI hl0 hZ hH ⟨by omega, by omega⟩ (lv_sub hl [0, 1, 2] rfl) hf
                                · have hf := it_t c32 hf
                                  refine lv_aload_n hx hb dL_refuses_314 rfl (lv_at hl 0 rfl) ?_
                                  refine lv_iload_n hx hb dL_refuses_315 rfl (lv_at hl 3 rfl) ?_
                                  refine lv_bipush (v := 99) hx hb dL_refuses_316 (by decide) ?_
                                  obtain ⟨t33, ht33, hf⟩ := bd_o hf
                                  refine kh (MC := 138) (MS := 828) (As := [.ref (ad 150), .int x3, .int 99]) (rest := []) ⟨rfl, rfl⟩ X hZ hH (h6_carOf l hI hl0 _ x3 99 ht33) (vx_cwSW 3 hts qL_134 rfl rfl rfl (by decide +kernel) ⟨Nat.le_of_ble_eq_true rfl, Nat.le_of_ble_eq_true rfl⟩) rfl hl.1 rfl (Nat.le_of_ble_eq_true rfl) dL_refuses_318 ⟨by omega, by omega⟩ (fun H locs hH => ?_)
                                  refine lv_bipush (v := (-3)) hx hb dL_refuses_321 (by decide) ?_
                                  refine lv_icmp_ne (tgt := 458) hx hb dL_refuses_323 (by decide) (fun c34 => ?_) (fun c34 => ?_)
                                  · have hf := it_f c34 hf
                                    exact w6_refuses_458 X hI hl0 hZ hH ⟨by omega, by omega⟩ (lv_sub hl [0, 1, 2] rfl) hf
                                  · have hf := it_t c34 hf
                                    refine lv_aload_n hx hb dL_refuses_326 rfl (lv_at hl 0 rfl) ?_
                                    refine lv_iconst (v := 5) hx hb dL_refuses_327 (by decide) ?_
                                    refine lv_iload_n hx hb dL_refuses_328 rfl (lv_at hl 1 rfl) ?_
                                    refine lv_iadd hx hb dL_refuses_329 ?_
                                    obtain ⟨t35, ht35, hf⟩ := bd_o hf
                                    refine kh (MC := 138) (MS := 828) (As := [.ref (ad 150), .int (5 + x1)]) (rest := []) ⟨rfl, rfl⟩ X hZ hH (h6_cars l hI hl0 _ (5 + x1) ht35) (vx_cwSW 2 hts qL_132 rfl rfl rfl (by decide +kernel) ⟨Nat.le_of_ble_eq_true rfl, Nat.le_of_ble_eq_true rfl⟩) rfl hl.1 rfl (Nat.le_of_ble_eq_true rfl) dL_refuses_330 ⟨by omega, by omega⟩ (fun H locs hH => ?_)
                                    refine lv_bipush (v := (-2)) hx hb dL_refuses_333 (by decide) ?_
                                    refine lv_icmp_ne (tgt := 458) hx hb dL_refuses_335 (by decide) (fun c36 => ?_) (fun c36 => ?_)
                                    · have hf := it_f c36 hf
                                      exact w6_refuses_458 X hI hl0 hZ hH ⟨by omega, by omega⟩ (lv_sub hl [0, 1, 2] rfl) hf
                                    · have hf := it_t c36 hf
                                      refine lv_aload_n hx hb dL_refuses_338 rfl (lv_at hl 0 rfl) ?_
                                      refine lv_iconst (v := (-1)) hx hb dL_refuses_339 (by decide) ?_
                                      refine lv_iload_n hx hb dL_refuses_340 rfl (lv_at hl 1 rfl) ?_
                                      refine lv_isub hx hb dL_refuses_341 ?_
                                      obtain ⟨t37, ht37, hf⟩ := bd_o hf
                                      refine kh (MC := 138) (MS := 828) (As := [.ref (ad 150), .int (((-1)) - x1)]) (rest := []) ⟨rfl, rfl⟩ X hZ hH (h6_rolling l hI hl0 _ (((-1)) - x1) ht37) (vx_cwSW 2 hts qL_141 rfl rfl rfl (by decide +kernel) ⟨Nat.le_of_ble_eq_true rfl, Nat.le_of_ble_eq_true rfl⟩) rfl hl.1 rfl (Nat.le_of_ble_eq_true rfl) dL_refuses_342 ⟨by omega, by omega⟩ (fun H locs hH => ?_)
                                      refine lv_bipush (v := (-2)) hx hb dL_refuses_345 (by decide) ?_
                                      refine lv_icmp_ne (tgt := 458) hx hb dL_refuses_347 (by decide) (fun c38 => ?_) (fun c38 => ?_)
                                      · have hf := it_f c38 hf
                                        exact w6_refuses_458 X hI hl0 hZ hH ⟨by omega, by omega⟩ (lv_sub hl [0, 1, 2] rfl) hf
                                      · have hf := it_t c38 hf
                                        refine lv_aload_n hx hb dL_refuses_350 rfl (lv_at hl 0 rfl) ?_
                                        refine lv_bipush (v := 14) hx hb dL_refuses_351 (by decide) ?_
                                        refine lv_iload_n hx hb dL_refuses_353 rfl (lv_at hl 1 rfl) ?_
                                        refine lv_iadd hx hb dL_refuses_354 ?_
                                        obtain ⟨t39, ht39, hf⟩ := bd_o hf
                                        refine kh (MC := 138) (MS := 828) (As := [.ref (ad 150), .int (14 + x1)]) (rest := []) ⟨rfl, rfl⟩ X hZ hH (h6_count l hI hl0 _ (14 + x1) ht39) (vx_cwSW 2 hts qL_91 rfl rfl rfl (by decide +kernel) ⟨Nat.le_of_ble_eq_true rfl, Nat.le_of_ble_eq_true rfl⟩) rfl hl.1 rfl (Nat.le_of_ble_eq_true rfl) dL_refuses_355 ⟨by omega, by omega⟩ (fun H locs hH => ?_)
                                        refine lv_bipush (v := (-2)) hx hb dL_refuses_358 (by decide) ?_
                                        refine lv_icmp_ne (tgt := 458) hx hb dL_refuses_360 (by decide) (fun c40 => ?_) (fun c40 => ?_)
                                        · have hf := it_f c40 hf
                                          exact w6_refuses_458 X hI hl0 hZ hH ⟨by omega, by omega⟩ (lv_sub hl [0, 1, 2] rfl) hf
                                        · have hf := it_t c40 hf
                                          refine lv_aload_n hx hb dL_refuses_363 rfl (lv_at hl 0 rfl) ?_
                                          refine lv_iload_n hx hb dL_refuses_364 rfl (lv_at hl 3 rfl) ?_
                                          refine lv_iconst (v := 1) hx hb dL_refuses_365 (by decide) ?_
                                          obtain ⟨t41, ht41, hf⟩ := bd_o hf
                                          refine kh (MC := 138) (MS := 828) (As := [.ref (ad 150), .int x3, .int 1]) (rest := []) ⟨rfl, rfl⟩ X hZ hH (h6_refusal l hI hl0 _ x3 1 ht41) (vx_cwSW 3 hts qL_138 rfl rfl rfl (by decide +kernel) ⟨Nat.le_of_ble_eq_true rfl, Nat.le_of_ble_eq_true rfl⟩) rfl hl.1 rfl (Nat.le_of_ble_eq_true rfl) dL_refuses_366 ⟨by omega, by omega⟩ (fun H locs hH => ?_)
                                          refine lv_bipush (v := (-3)) hx hb dL_refuses_369 (by decide) ?_
                                          refine lv_icmp_ne (tgt := 458) hx hb dL_refuses_371 (by decide) (fun c42 => ?_) (fun c42 => ?_)
                                          · have hf := it_f c42 hf
                                            exact w6_refuses_458 X hI hl0 hZ hH ⟨by omega, by omega⟩ (lv_sub hl [0, 1, 2] rfl) hf
                                          · have hf := it_t c42 hf
                                            refine lv_aload_n hx hb dL_refuses_374 rfl (lv_at hl 0 rfl) ?_
                                            refine lv_bipush (v := 21) hx hb dL_refuses_375 (by decide) ?_
                                            refine lv_iload_n hx hb dL_refuses_377 rfl (lv_at hl 1 rfl) ?_
                                            refine lv_iadd hx hb dL_refuses_378 ?_
                                            refine lv_iconst (v := 0) hx hb dL_refuses_379 (by decide) ?_
                                            refine lv_iconst (v := 0) hx hb dL_refuses_380 (by decide) ?_
                                            obtain ⟨t43, ht43, hf⟩ := bd_o hf
                                            refine kh (MC := 138) (MS := 828) (As := [.ref (ad 150), .int (21 + x1), .int 0, .int 0]) (rest := []) ⟨rfl, rfl⟩ X hZ hH (h6_ifAlone l hI hl0 _ (21 + x1) 0 0 ht43) (vx_cwSW 4 hts qL_149 rfl rfl rfl (by decide +kernel) ⟨Nat.le_of_ble_eq_true rfl, Nat.le_of_ble_eq_true rfl⟩) rfl hl.1 rfl (Nat.le_of_ble_eq_true rfl) dL_refuses_381 ⟨by omega, by omega⟩ (fun H locs hH => ?_)
                                            refine lv_bipush (v := (-2)) hx hb dL_refuses_384 (by decide) ?_
                                            refine lv_icmp_ne (tgt := 458) hx hb dL_refuses_386 (by decide) (fun c44 => ?_) (fun c44 => ?_)
                                            · have hf := it_f c44 hf
                                              exact w6_refuses_458 X hI hl0 hZ hH ⟨by omega, by omega⟩ (lv_sub hl [0, 1, 2] rfl) hf
                                            · have hf := it_t c44 hf
                                              refine lv_aload_n hx hb dL_refuses_389 rfl (lv_at hl 0 rfl) ?_
                                              refine lv_iconst (v := 0) hx hb dL_refuses_390 (by decide) ?_
                                              refine lv_iconst (v := (-1)) hx hb dL_refuses_391 (by decide) ?_
                                              refine lv_iload_n hx hb dL_refuses_392 rfl (lv_at hl 1 rfl) ?_
                                              refine lv_isub hx hb dL_refuses_393 ?_
                                              refine lv_iconst (v := 0) hx hb dL_refuses_394 (by decide) ?_
                                              obtain ⟨t45, ht45, hf⟩ := bd_o hf
                                              refine kh (MC := 138) (MS := 828) (As := [.ref (ad 150), .int 0, .int (((-1)) - x1), .int 0]) (rest := []) ⟨rfl, rfl⟩ X hZ hH (h6_ifAlone l hI hl0 _ 0 (((-1)) - x1) 0 ht45) (vx_cwSW 4 hts qL_149 rfl rfl rfl (by decide +kernel) ⟨Nat.le_of_ble_eq_true rfl, Nat.le_of_ble_eq_true rfl⟩) rfl hl.1 rfl (Nat.le_of_ble_eq_true rfl) dL_refuses_395 ⟨by omega, by omega⟩ (fun H locs hH => ?_)
                                              refine lv_bipush (v := (-2)) hx hb dL_refuses_398 (by decide) ?_
                                              refine lv_icmp_ne (tgt := 458) hx hb dL_refuses_400 (by decide) (fun c46 => ?_) (fun c46 => ?_)
                                              · have hf := it_f c46 hf
                                                exact w6_refuses_458 X hI hl0 hZ hH ⟨by omega, by omega⟩ (lv_sub hl [0, 1, 2] rfl) hf
                                              · have hf := it_t c46 hf
                                                refine lv_aload_n hx hb dL_refuses_403 rfl (lv_at hl 0 rfl) ?_
                                                refine lv_iconst (v := (-1)) hx hb dL_refuses_404 (by decide) ?_
                                                refine lv_iload_n hx hb dL_refuses_405 rfl (lv_at hl 1 rfl) ?_
                                                refine lv_isub hx hb dL_refuses_406 ?_
                                                obtain ⟨t47, ht47, hf⟩ := bd_o hf
                                                refine kh (MC := 138) (MS := 828) (As := [.ref (ad 150), .int (((-1)) - x1)]) (rest := []) ⟨rfl, rfl⟩ X hZ hH (h6_leastBrake l hI hl0 _ (((-1)) - x1) ht47) (vx_cwSW 2 hts qL_152 rfl rfl rfl (by decide +kernel) ⟨Nat.le_of_ble_eq_true rfl, Nat.le_of_ble_eq_true rfl⟩) rfl hl.1 rfl (Nat.le_of_ble_eq_true rfl) dL_refuses_407 ⟨by omega, by omega⟩ (fun H locs hH => ?_)
                                                refine lv_bipush (v := (-2)) hx hb dL_refuses_410 (by decide) ?_
                                                refine lv_icmp_ne (tgt := 458) hx hb dL_refuses_412 (by decide) (fun c48 => ?_) (fun c48 => ?_)
                                                · have hf := it_f c48 hf
                                                  exact w6_refuses_458 X hI hl0 hZ hH ⟨by omega, by omega⟩ (lv_sub hl [0, 1, 2] rfl) hf
                                                · have hf := it_t c48 hf
                                                  refine lv_aload_n hx hb dL_refuses_415 rfl (lv_at hl 0 rfl) ?_
                                                  refine lv_iconst (v := 0) hx hb dL_refuses_416 (by decide) ?_
                                                  refine lv_iconst (v := 0) hx hb dL_refuses_417 (by decide) ?_
                                                  obtain ⟨t49, ht49, hf⟩ := bd_o hf
                                                  refine kh (MC := 138) (MS := 828) (As := [.ref (ad 150), .int 0, .int 0]) (rest := []) ⟨rfl, rfl⟩ X hZ hH (h6_ifRun l hI hl0 _ 0 0 ht49) (vx_cwSW 3 hts qL_147 rfl rfl rfl (by decide +kernel) ⟨Nat.le_of_ble_eq_true rfl, Nat.le_of_ble_eq_true rfl⟩) rfl hl.1 rfl (Nat.le_of_ble_eq_true rfl) dL_refuses_418 ⟨by omega, by omega⟩ (fun H locs hH => ?_)
                                                  refine lv_bipush (v := (-2)) hx hb dL_refuses_421 (by decide) ?_
                                                  refine lv_icmp_ne (tgt := 458) hx hb dL_refuses_423 (by decide) (fun c50 => ?_) (fun c50 => ?_)
                                                  · have hf := it_f c50 hf
                                                    exact w6_refuses_458 X hI hl0 hZ hH ⟨by omega, by omega⟩ (lv_sub hl [0, 1, 2] rfl) hf
                                                  · have hf := it_t c50 hf
                                                    refine lv_aload_n hx hb dL_refuses_426 rfl (lv_at hl 0 rfl) ?_
                                                    refine lv_sipush (v := 201) hx hb dL_refuses_427 (by decide) ?_
                                                    refine lv_iload_n hx hb dL_refuses_430 rfl (lv_at hl 1 rfl) ?_
                                                    refine lv_iadd hx hb dL_refuses_431 ?_
                                                    refine lv_iconst (v := 0) hx hb dL_refuses_432 (by decide) ?_
                                                    obtain ⟨t51, ht51, hf⟩ := bd_o hf
                                                    refine kh (MC := 138) (MS := 828) (As := [.ref (ad 150), .int (201 + x1), .int 0]) (rest := []) ⟨rfl, rfl⟩ X hZ hH (h6_ifRun l hI hl0 _ (201 + x1) 0 ht51) (vx_cwSW 3 hts qL_147 rfl rfl rfl (by decide +kernel) ⟨Nat.le_of_ble_eq_true rfl, Nat.le_of_ble_eq_true rfl⟩) rfl hl.1 rfl (Nat.le_of_ble_eq_true rfl) dL_refuses_433 ⟨by omega, by omega⟩ (fun H locs hH => ?_)
                                                    refine lv_bipush (v := (-2)) hx hb dL_refuses_436 (by decide) ?_
                                                    refine lv_icmp_ne (tgt := 458) hx hb dL_refuses_438 (by decide) (fun c52 => ?_) (fun c52 => ?_)
                                                    · have hf := it_f c52 hf
                                                      exact w6_refuses_458 X hI hl0 hZ hH ⟨by omega, by omega⟩ (lv_sub hl [0, 1, 2] rfl) hf
                                                    · have hf := it_t c52 hf
                                                      refine lv_aload_n hx hb dL_refuses_441 rfl (lv_at hl 0 rfl) ?_
                                                      refine lv_iconst (v := 1) hx hb dL_refuses_442 (by decide) ?_
                                                      refine lv_iconst (v := 5) hx hb dL_refuses_443 (by decide) ?_
                                                      refine lv_iload_n hx hb dL_refuses_444 rfl (lv_at hl 1 rfl) ?_
                                                      refine lv_iadd hx hb dL_refuses_445 ?_
                                                      obtain ⟨t53, ht53, hf⟩ := bd_o hf
                                                      refine kh (MC := 138) (MS := 828) (As := [.ref (ad 150), .int 1, .int (5 + x1)]) (rest := []) ⟨rfl, rfl⟩ X hZ hH (h6_ifRun l hI hl0 _ 1 (5 + x1) ht53) (vx_cwSW 3 hts qL_147 rfl rfl rfl (by decide +kernel) ⟨Nat.le_of_ble_eq_true rfl, Nat.le_of_ble_eq_true rfl⟩) rfl hl.1 rfl (Nat.le_of_ble_eq_true rfl) dL_refuses_446 ⟨by omega, by omega⟩ (fun H locs hH => ?_)
                                                      refine lv_bipush (v := (-2)) hx hb dL_refuses_449 (by decide) ?_
                                                      refine lv_icmp_ne (tgt := 458) hx hb dL_refuses_451 (by decide) (fun c54 => ?_) (fun c54 => ?_)
                                                      · have hf := it_f c54 hf
                                                        exact w6_refuses_458 X hI hl0 hZ hH ⟨by omega, by omega⟩ (lv_sub hl [0, 1, 2] rfl) hf
                                                      · have hf := it_t c54 hf
                                                        refine lv_iconst (v := 1) hx hb dL_refuses_454 (by decide) ?_
                                                        refine lv_goto (tgt := 459) hx hb dL_refuses_455 (by decide) ?_
                                                        exact w6_refuses_459 X hI hl0 hZ hH ⟨by omega, by omega⟩ (lv_sub hl [0, 1, 2] rfl) hf
def f6_refuses_21 (x1 : Int32) (x2 : Int32) (y0 : Int32) (mu : Nat → Nat → Int32) : Option (Int32 × (Nat → Nat → Int32)) := Option.bind (f6_grade_0 (30 + x1) 0 mu) (fun t1 => if t1.1 = ((-3)) then (Option.bind (f6_grade_0 0 (10 + x1) t1.2) (fun t3 => if t3.1 = ((-2)) then (Option.bind (f6_spring_0 0 0 t3.2) (fun t5 => if t5.1 = ((-3)) then (Option.bind (f6_spring_0 (30 + x1) 50 t5.2) (fun t7 => if t7.1 = ((-3)) then (Option.bind (f6_spring_0 1 (41 + x1) t7.2) (fun t9 => if t9.1 = ((-2)) then (Option.bind (f6_spring_0 29 (((-1)) - x1) t9.2) (fun t11 => if t11.1 = ((-2)) then (if x2 < 8 then (f6_refuses_119 x1 x2 y0 t11.2) else (Option.bind (f6_car_0 t11.2) (fun t14 => if t14.1 = ((-2)) then (f6_refuses_119 x1 x2 y0 t14.2) else (f6_refuses_458 x1 x2 t14.2)))) else (f6_refuses_458 x1 x2 t11.2))) else (f6_refuses_458 x1 x2 t9.2))) else (f6_refuses_458 x1 x2 t7.2))) else (f6_refuses_458 x1 x2 t5.2))) else (f6_refuses_458 x1 x2 t3.2))) else (f6_refuses_458 x1 x2 t1.2))
set_option maxRecDepth 100000 in
set_option maxHeartbeats 4000000 in
theorem w6_refuses_21 {p : Program} {l : Launch} {e : Env} {s : State} {m : MethodId} {args : Array Value} {below : List Frame} {meth : Method} {c : Code} {D : va_G} {Y : cYt} {ad : Nat → Nat} {mu : Nat → Nat → Int32} (X : cX D Y p s m args meth c cL_refuses 6 RL (some .boolean)) (hI : cInj ad) (hl0 : l.stackTraces = false) (hZ : lZ ad s.heap.size s)  {x1 : Int32} {x2 : Int32} {y0 : Int32} {t : Int32 × (Nat → Nat → Int32)} {H : Heap} {locs : List Loc} (hH : cH D Y ad mu s H locs) {cells slots : Nat} (hc : cells + 3 * (45) ≤ 138 ∧ slots + 18 * (45) ≤ 828) {ls : Array Slot} (hl : lv_has ls 6 [(0, .ref (ad 150)), (1, .int x1), (2, .int x2)]) (hf : f6_refuses_21 x1 x2 y0 mu = some t) : W p l e rm6_refuses s m args below meth c H locs cells slots (MQ below (va_Qi (fun (r9 : Int32) (_ : Unit) => r9 = t.1) (fun _ t9 => cB D Y ad t.2 t9) (cA ad s.heap.size)) args s 138 828 (cA ad s.heap.size)) (F0 m 21 ls [.int y0]) := by
  obtain ⟨⟨hx, hb, hml, hown, hts⟩, hr, hlk, hK⟩ := id X
  replace hf : (Option.bind (f6_grade_0 (30 + x1) 0 mu) (fun t1 => if t1.1 = ((-3)) then (Option.bind (f6_grade_0 0 (10 + x1) t1.2) (fun t3 => if t3.1 = ((-2)) then (Option.bind (f6_spring_0 0 0 t3.2) (fun t5 => if t5.1 = ((-3)) then (Option.bind (f6_spring_0 (30 + x1) 50 t5.2) (fun t7 => if t7.1 = ((-3)) then (Option.bind (f6_spring_0 1 (41 + x1) t7.2) (fun t9 => if t9.1 = ((-2)) then (Option.bind (f6_spring_0 29 (((-1)) - x1) t9.2) (fun t11 => if t11.1 = ((-2)) then (if x2 < 8 then (f6_refuses_119 x1 x2 y0 t11.2) else (Option.bind (f6_car_0 t11.2) (fun t14 => if t14.1 = ((-2)) then (f6_refuses_119 x1 x2 y0 t14.2) else (f6_refuses_458 x1 x2 t14.2)))) else (f6_refuses_458 x1 x2 t11.2))) else (f6_refuses_458 x1 x2 t9.2))) else (f6_refuses_458 x1 x2 t7.2))) else (f6_refuses_458 x1 x2 t5.2))) else (f6_refuses_458 x1 x2 t3.2))) else (f6_refuses_458 x1 x2 t1.2))) = some t := hf
  refine lv_istore_n (lv' := [(3, .int y0), (0, .ref (ad 150)), (1, .int x1), (2, .int x2)]) hx hb dL_refuses_21 rfl hl (by decide) rfl (fun ls hl => ?_)
  refine lv_aload_n hx hb dL_refuses_22 rfl (lv_at hl 1 rfl) ?_
  refine lv_bipush (v := 30) hx hb dL_refuses_23 (by decide) ?_
  refine lv_iload_n hx hb dL_refuses_25 rfl (lv_at hl 2 rfl) ?_
  refine lv_iadd hx hb dL_refuses_26 ?_
  refine lv_iconst (v := 0) hx hb dL_refuses_27 (by decide) ?_
  obtain ⟨t1, ht1, hf⟩ := bd_o hf
  refine kh (MC := 138) (MS := 828) (As := [.ref (ad 150), .int (30 + x1), .int 0]) (rest := []) ⟨rfl, rfl⟩ X hZ hH (h6_grade l hI hl0 _ (30 + x1) 0 ht1) (vx_cwSW 3 hts qL_99 rfl rfl rfl (by decide +kernel) ⟨Nat.le_of_ble_eq_true rfl, Nat.le_of_ble_eq_true rfl⟩) rfl hl.1 rfl (Nat.le_of_ble_eq_true rfl) dL_refuses_28 ⟨by omega, by omega⟩ (fun H locs hH => ?_)
  refine lv_bipush (v := (-3)) hx hb dL_refuses_31 (by decide) ?_
  refine lv_icmp_ne (tgt := 458) hx hb dL_refuses_33 (by decide) (fun c2 => ?_) (fun c2 => ?_)
  · have hf := it_f c2 hf
    exact w6_refuses_458 X hI hl0 hZ hH ⟨by omega, by omega⟩ (lv_sub hl [1, 2, 3] rfl) hf
  · have hf := it_t c2 hf
    refine lv_aload_n hx hb dL_refuses_36 rfl (lv_at hl 1 rfl) ?_
    refine lv_iconst (v := 0) hx hb dL_refuses_37 (by decide) ?_
    refine lv_bipush (v := 10) hx hb dL_refuses_38 (by decide) ?_
    refine lv_iload_n hx hb dL_refuses_40 rfl (lv_at hl 2 rfl) ?_
    refine lv_iadd hx hb dL_refuses_41 ?_
    obtain ⟨t3, ht3, hf⟩ := bd_o hf
    refine kh (MC := 138) (MS := 828) (As := [.ref (ad 150), .int 0, .int (10 + x1)]) (rest := []) ⟨rfl, rfl⟩ X hZ hH (h6_grade l hI hl0 _ 0 (10 + x1) ht3) (vx_cwSW 3 hts qL_99 rfl rfl rfl (by decide +kernel) ⟨Nat.le_of_ble_eq_true rfl, Nat.le_of_ble_eq_true rfl⟩) rfl hl.1 rfl (Nat.le_of_ble_eq_true rfl) dL_refuses_42 ⟨by omega, by omega⟩ (fun H locs hH => ?_)
    refine lv_bipush (v := (-2)) hx hb dL_refuses_45 (by decide) ?_
    refine lv_icmp_ne (tgt := 458) hx hb dL_refuses_47 (by decide) (fun c4 => ?_) (fun c4 => ?_)
    · have hf := it_f c4 hf
      exact w6_refuses_458 X hI hl0 hZ hH ⟨by omega, by omega⟩ (lv_sub hl [1, 2, 3] rfl) hf
    · have hf := it_t c4 hf
      refine lv_aload_n hx hb dL_refuses_50 rfl (lv_at hl 1 rfl) ?_
      refine lv_iconst (v := 0) hx hb dL_refuses_51 (by decide) ?_
      refine lv_iconst (v := 0) hx hb dL_refuses_52 (by decide) ?_
      obtain ⟨t5, ht5, hf⟩ := bd_o hf
      refine kh (MC := 138) (MS := 828) (As := [.ref (ad 150), .int 0, .int 0]) (rest := []) ⟨rfl, rfl⟩ X hZ hH (h6_spring l hI hl0 _ 0 0 ht5) (vx_cwSW 3 hts qL_102 rfl rfl rfl (by decide +kernel) ⟨Nat.le_of_ble_eq_true rfl, Nat.le_of_ble_eq_true rfl⟩) rfl hl.1 rfl (Nat.le_of_ble_eq_true rfl) dL_refuses_53 ⟨by omega, by omega⟩ (fun H locs hH => ?_)
      refine lv_bipush (v := (-3)) hx hb dL_refuses_56 (by decide) ?_
      refine lv_icmp_ne (tgt := 458) hx hb dL_refuses_58 (by decide) (fun c6 => ?_) (fun c6 => ?_)
      · have hf := it_f c6 hf
        exact w6_refuses_458 X hI hl0 hZ hH ⟨by omega, by omega⟩ (lv_sub hl [1, 2, 3] rfl) hf
      · have hf := it_t c6 hf
        refine lv_aload_n hx hb dL_refuses_61 rfl (lv_at hl 1 rfl) ?_
        refine lv_bipush (v := 30) hx hb dL_refuses_62 (by decide) ?_
        refine lv_iload_n hx hb dL_refuses_64 rfl (lv_at hl 2 rfl) ?_
        refine lv_iadd hx hb dL_refuses_65 ?_
        refine lv_bipush (v := 50) hx hb dL_refuses_66 (by decide) ?_
        obtain ⟨t7, ht7, hf⟩ := bd_o hf
        refine kh (MC := 138) (MS := 828) (As := [.ref (ad 150), .int (30 + x1), .int 50]) (rest := []) ⟨rfl, rfl⟩ X hZ hH (h6_spring l hI hl0 _ (30 + x1) 50 ht7) (vx_cwSW 3 hts qL_102 rfl rfl rfl (by decide +kernel) ⟨Nat.le_of_ble_eq_true rfl, Nat.le_of_ble_eq_true rfl⟩) rfl hl.1 rfl (Nat.le_of_ble_eq_true rfl) dL_refuses_68 ⟨by omega, by omega⟩ (fun H locs hH => ?_)
        refine lv_bipush (v := (-3)) hx hb dL_refuses_71 (by decide) ?_
        refine lv_icmp_ne (tgt := 458) hx hb dL_refuses_73 (by decide) (fun c8 => ?_) (fun c8 => ?_)
        · have hf := it_f c8 hf
          exact w6_refuses_458 X hI hl0 hZ hH ⟨by omega, by omega⟩ (lv_sub hl [1, 2, 3] rfl) hf
        · have hf := it_t c8 hf
          refine lv_aload_n hx hb dL_refuses_76 rfl (lv_at hl 1 rfl) ?_
          refine lv_iconst (v := 1) hx hb dL_refuses_77 (by decide) ?_
          refine lv_bipush (v := 41) hx hb dL_refuses_78 (by decide) ?_
          refine lv_iload_n hx hb dL_refuses_80 rfl (lv_at hl 2 rfl) ?_
          refine lv_iadd hx hb dL_refuses_81 ?_
          obtain ⟨t9, ht9, hf⟩ := bd_o hf
          refine kh (MC := 138) (MS := 828) (As := [.ref (ad 150), .int 1, .int (41 + x1)]) (rest := []) ⟨rfl, rfl⟩ X hZ hH (h6_spring l hI hl0 _ 1 (41 + x1) ht9) (vx_cwSW 3 hts qL_102 rfl rfl rfl (by decide +kernel) ⟨Nat.le_of_ble_eq_true rfl, Nat.le_of_ble_eq_true rfl⟩) rfl hl.1 rfl (Nat.le_of_ble_eq_true rfl) dL_refuses_82 ⟨by omega, by omega⟩ (fun H locs hH => ?_)
          refine lv_bipush (v := (-2)) hx hb dL_refuses_85 (by decide) ?_
          refine lv_icmp_ne (tgt := 458) hx hb dL_refuses_87 (by decide) (fun c10 => ?_) (fun c10 => ?_)
          · have hf := it_f c10 hf
            exact w6_refuses_458 X hI hl0 hZ hH ⟨by omega, by omega⟩ (lv_sub hl [1, 2, 3] rfl) hf
          · have hf := it_t c10 hf
            refine lv_aload_n hx hb dL_refuses_90 rfl (lv_at hl 1 rfl) ?_
            refine lv_bipush (v := 29) hx hb dL_refuses_91 (by decide) ?_
            refine lv_iconst (v := (-1)) hx hb dL_refuses_93 (by decide) ?_
            refine lv_iload_n hx hb dL_refuses_94 rfl (lv_at hl 2 rfl) ?_
            refine lv_isub hx hb dL_refuses_95 ?_
            obtain ⟨t11, ht11, hf⟩ := bd_o hf
            refine kh (MC := 138) (MS := 828) (As := [.ref (ad 150), .int 29, .int (((-1)) - x1)]) (rest := []) ⟨rfl, rfl⟩ X hZ hH (h6_spring l hI hl0 _ 29 (((-1)) - x1) ht11) (vx_cwSW 3 hts qL_102 rfl rfl rfl (by decide +kernel) ⟨Nat.le_of_ble_eq_true rfl, Nat.le_of_ble_eq_true rfl⟩) rfl hl.1 rfl (Nat.le_of_ble_eq_true rfl) dL_refuses_96 ⟨by omega, by omega⟩ (fun H locs hH => ?_)
            refine lv_bipush (v := (-2)) hx hb dL_refuses_99 (by decide) ?_
            refine lv_icmp_ne (tgt := 458) hx hb dL_refuses_101 (by decide) (fun c12 => ?_) (fun c12 => ?_)
            · have hf := it_f c12 hf
              exact w6_refuses_458 X hI hl0 hZ hH ⟨by omega, by omega⟩ (lv_sub hl [1, 2, 3] rfl) hf
            · have hf := it_t c12 hf
              refine lv_iload_n hx hb dL_refuses_104 rfl (lv_at hl 3 rfl) ?_
              refine lv_bipush (v := 8) hx hb dL_refuses_105 (by decide) ?_
              refine lv_icmp_lt (tgt := 119) hx hb dL_refuses_107 (by decide) (fun c13 => ?_) (fun c13 => ?_)
              · have hf := it_t c13 hf
                exact w6_refuses_119 X hI hl0 hZ hH ⟨by omega, by omega⟩ (lv_sub hl [1, 2, 3, 0] rfl) hf
              · have hf := it_f c13 hf
                refine lv_aload_n hx hb dL_refuses_110 rfl (lv_at hl 1 rfl) ?_
                obtain ⟨t14, ht14, hf⟩ := bd_o hf
                refine kh (MC := 138) (MS := 828) (As := [.ref (ad 150)]) (rest := []) ⟨rfl, rfl⟩ X hZ hH (h6_car l hI hl0 _  ht14) (vx_cwSW 1 hts qL_96 rfl rfl rfl (by decide +kernel) ⟨Nat.le_of_ble_eq_true rfl, Nat.le_of_ble_eq_true rfl⟩) rfl hl.1 rfl (Nat.le_of_ble_eq_true rfl) dL_refuses_111 ⟨by omega, by omega⟩ (fun H locs hH => ?_)
                refine lv_bipush (v := (-2)) hx hb dL_refuses_114 (by decide) ?_
                refine lv_icmp_ne (tgt := 458) hx hb dL_refuses_116 (by decide) (fun c15 => ?_) (fun c15 => ?_)
                · have hf := it_f c15 hf
                  exact w6_refuses_458 X hI hl0 hZ hH ⟨by omega, by omega⟩ (lv_sub hl [1, 2, 3] rfl) hf
                · have hf := it_t c15 hf
                  exact w6_refuses_119 X hI hl0 hZ hH ⟨by omega, by omega⟩ (lv_sub hl [1, 2, 3, 0] rfl) hf
def f6_refuses_0 (x1 : Int32) (mu : Nat → Nat → Int32) : Option (Int32 × (Nat → Nat → Int32)) := Option.bind (f6_count_0 mu 1) (fun t1 => if (rmI x1 2) = 0 then (f6_refuses_21 x1 t1 (t1 + x1) mu) else (f6_refuses_21 x1 t1 (((-1)) - x1) mu))
set_option maxRecDepth 100000 in
set_option maxHeartbeats 4000000 in
theorem w6_refuses_0 {p : Program} {l : Launch} {e : Env} {s : State} {m : MethodId} {args : Array Value} {below : List Frame} {meth : Method} {c : Code} {D : va_G} {Y : cYt} {ad : Nat → Nat} {mu : Nat → Nat → Int32} (X : cX D Y p s m args meth c cL_refuses 6 RL (some .boolean)) (hI : cInj ad) (hl0 : l.stackTraces = false) (hZ : lZ ad s.heap.size s)  {x1 : Int32} {t : Int32 × (Nat → Nat → Int32)} {H : Heap} {locs : List Loc} (hH : cH D Y ad mu s H locs) {cells slots : Nat} (hc : cells + 3 * (46) ≤ 138 ∧ slots + 18 * (46) ≤ 828) {ls : Array Slot} (hl : lv_has ls 6 [(0, .ref (ad 150)), (1, .int x1)]) (hf : f6_refuses_0 x1 mu = some t) : W p l e rm6_refuses s m args below meth c H locs cells slots (MQ below (va_Qi (fun (r9 : Int32) (_ : Unit) => r9 = t.1) (fun _ t9 => cB D Y ad t.2 t9) (cA ad s.heap.size)) args s 138 828 (cA ad s.heap.size)) (F0 m 0 ls []) := by
  obtain ⟨⟨hx, hb, hml, hown, hts⟩, hr, hlk, hK⟩ := id X
  replace hf : (Option.bind (f6_count_0 mu 1) (fun t1 => if (rmI x1 2) = 0 then (f6_refuses_21 x1 t1 (t1 + x1) mu) else (f6_refuses_21 x1 t1 (((-1)) - x1) mu))) = some t := hf
  refine lv_aload_n hx hb dL_refuses_0 rfl (lv_at hl 0 rfl) ?_
  refine lv_iconst (v := 1) hx hb dL_refuses_1 (by decide) ?_
  obtain ⟨t1, ht1, hf⟩ := bd_o hf
  refine kh (MC := 138) (MS := 828) (As := [.ref (ad 150), .int 1]) (rest := []) ⟨rfl, rfl⟩ X hZ hH (h6_count l hI hl0 _ 1 ht1) (vx_cwSW 2 hts qL_91 rfl rfl rfl (by decide +kernel) ⟨Nat.le_of_ble_eq_true rfl, Nat.le_of_ble_eq_true rfl⟩) rfl hl.1 rfl (Nat.le_of_ble_eq_true rfl) dL_refuses_2 ⟨by omega, by omega⟩ (fun H locs hH => ?_)
  refine lv_istore_n (lv' := [(2, .int t1), (0, .ref (ad 150)), (1, .int x1)]) hx hb dL_refuses_5 rfl hl (by decide) rfl (fun ls hl => ?_)
  refine lv_iload_n hx hb dL_refuses_6 rfl (lv_at hl 2 rfl) ?_
  refine lv_iconst (v := 2) hx hb dL_refuses_7 (by decide) ?_
  refine hr_irem hx hb dL_refuses_8 (by decide) ?_
  refine lv_if_ne (tgt := 18) hx hb dL_refuses_9 (by decide) (fun c2 => ?_) (fun c2 => ?_)
  · have hf := it_f c2 hf
    refine lv_iconst (v := (-1)) hx hb dL_refuses_18 (by decide) ?_
    refine lv_iload_n hx hb dL_refuses_19 rfl (lv_at hl 2 rfl) ?_
    refine lv_isub hx hb dL_refuses_20 ?_
    exact w6_refuses_21 X hI hl0 hZ hH ⟨by omega, by omega⟩ (lv_sub hl [1, 2, 0] rfl) hf
  · have hf := it_t c2 hf
    refine lv_iload_n hx hb dL_refuses_12 rfl (lv_at hl 0 rfl) ?_
    refine lv_iload_n hx hb dL_refuses_13 rfl (lv_at hl 2 rfl) ?_
    refine lv_iadd hx hb dL_refuses_14 ?_
    refine lv_goto (tgt := 21) hx hb dL_refuses_15 (by decide) ?_
    exact w6_refuses_21 X hI hl0 hZ hH ⟨by omega, by omega⟩ (lv_sub hl [1, 2, 0] rfl) hf
set_option maxRecDepth 100000 in
set_option maxHeartbeats 4000000 in
theorem c6_refuses (l : Launch) {D : va_G} {Y : cYt} {ad : Nat → Nat} {mu : Nat → Nat → Int32} (hI : cInj ad) (hl0 : l.stackTraces = false) (sz : Nat) (x1 : Int32) {t : Int32 × (Nat → Nat → Int32)} (hf : f6_refuses_0 x1 mu = some t) : Met l yL_refuses uL_refuses rm6_refuses (va_Pc [.ref (ad 150), .int x1] (fun U => U.heap.size = sz ∧ lZ ad sz U ∧ cB D Y ad mu U)) (va_Qi (fun (r9 : Int32) (_ : Unit) => r9 = t.1) (fun _ t9 => cB D Y ad t.2 t9) (cA ad sz)) 138 828 (cA ad sz) := by
  refine Met.ofW (cc := cL_refuses) (maxL := 6) (ret := (some .boolean)) (by decide) rfl ?_
  intro p e s m args below meth c s₁ B hml hv
  obtain ⟨rfl, hsz, hz, hP, hK⟩ := hv
  subst hsz
  have X : cX D Y p s m ([.ref (ad 150), .int x1] : List Value).toArray meth c cL_refuses 6 RL (some .boolean) := ⟨⟨B.exec, B.bytes, hml, findClass_of_methodNamed B.named, fun w h => atoms_spec (ws := uL_refuses) B.pre w (List.mem_cons_of_mem _ h)⟩, B.returns, B.notSynchronized, hK⟩
  have hl := lv_entry ([.ref (ad 150), .int x1]) (n := 6) (Nat.le_of_ble_eq_true rfl)
  rw [lg_entry_eq]
  generalize (lg_sl ([.ref (ad 150), .int x1]) ++ List.replicate (6 - (lg_sl ([.ref (ad 150), .int x1])).length) Slot.unset).toArray = ls at hl ⊢
  have hl : lv_has ls 6 [(0, .ref (ad 150)), (1, .int x1)] := hl
  exact w6_refuses_0 X hI hl0 hz ⟨hP, va_S.rf⟩ ⟨Nat.le_of_ble_eq_true rfl, Nat.le_of_ble_eq_true rfl⟩ (lv_sub hl [0, 1] rfl) hf
