/-! OreRailway$State.oreInCars()I -/
def rm3_oreInCars : Room := { frames := 0, cells := 0, slots := 0, locals := 0 }
def f3_oreInCars_4 (v0 : Nat → Int32) : Nat → Int32 → Int32 → Option (Int32)
  | 0, _, _ => none
  | n + 1, x1, x2 => if (v0 162) ≤ x2 then (some x1) else (gd x2 8 ((f3_oreInCars_4 v0 n) (x1 + (v0 (90 + 9 * ((Int32.toNatClampNeg x2)) + 1))) (x2 + 1)))
set_option maxRecDepth 100000 in
set_option maxHeartbeats 4000000 in
theorem w3_oreInCars_4 {p : Program} {l : Launch} {e : Env} {s : State} {m : MethodId} {args : Array Value} {below : List Frame} {meth : Method} {c : Code} {D : va_G} {Y : cYt} {ad : Nat → Nat} {μ : Nat → Nat → Int32} {k : Nat} {v0 : Nat → Int32} (X : cX D Y p s m args meth c cX3_oreInCars 3 RX3 (some .int)) (hk : k < 10) (hM : μ k = v0) (hP : va_P D vwCl (cwW Y ad μ) s.heap) {t : Int32} :
    ∀ (n : Nat) (x1 : Int32) (x2 : Int32) (ls : Array Slot), lv_has ls 3 [(0, .ref (ad (15 * k))), (1, .int x1), (2, .int x2)] → f3_oreInCars_4 v0 n x1 x2 = some t → W p l e rm3_oreInCars s m args below meth c s.heap [] 0 0 (MQ below (QcRead t) args s 0 0 (fun _ => False)) (F0 m 4 ls []) := by
  obtain ⟨⟨hx, hb, hml, hown, hts⟩, hr, hlk, hK⟩ := id X
  intro n
  induction n with
  | zero =>
    intro x1 x2 ls hl hf
    cases hf
  | succ n ih =>
    intro x1 x2 ls hl hf
    replace hf : (if (v0 162) ≤ x2 then (some x1) else (gd x2 8 ((f3_oreInCars_4 v0 n) (x1 + (v0 (90 + 9 * ((Int32.toNatClampNeg x2)) + 1))) (x2 + 1)))) = some t := hf
    refine lv_iload_n hx hb dX3_oreInCars_4 rfl (lv_at hl 2 rfl) ?_
    refine lv_aload_n hx hb dX3_oreInCars_5 rfl (lv_at hl 0 rfl) ?_
    refine cr_gSt X hk hM hP (i := 6) (v := .int (v0 162)) (by decide) gfX3_44 rfl dX3_oreInCars_6 ?_
    refine lv_icmp_ge (tgt := 30) hx hb dX3_oreInCars_9 (by decide) (fun c1 => ?_) (fun c1 => ?_)
    · have hf := it_t c1 hf
      refine lv_iload_n hx hb dX3_oreInCars_30 rfl (lv_at hl 1 rfl) ?_
      obtain rfl := so_i hf
      exact rd_i hx hb hr hlk dX3_oreInCars_31
    · have hf := it_f c1 hf
      refine lv_iload_n hx hb dX3_oreInCars_12 rfl (lv_at hl 1 rfl) ?_
      refine lv_aload_n hx hb dX3_oreInCars_13 rfl (lv_at hl 0 rfl) ?_
      refine cr_gSt X hk hM hP (i := 4) (v := .ref (ad (15 * k + 5))) (by decide) gfX3_26 rfl dX3_oreInCars_14 ?_
      refine lv_iload_n hx hb dX3_oreInCars_17 rfl (lv_at hl 2 rfl) ?_
      obtain ⟨hi2, hf⟩ := gd_o hf
      refine cr_cars X hk hP hi2 dX3_oreInCars_18 ?_
      refine cr_gCar X hk hM (j := (Int32.toNatClampNeg x2)) (vin_lt hi2) hP (i := 1) (v := .int (v0 (90 + 9 * ((Int32.toNatClampNeg x2)) + 1))) (by decide) gfX3_73 rfl dX3_oreInCars_19 ?_
      refine lv_iadd hx hb dX3_oreInCars_22 ?_
      refine lv_istore_n (lv' := [(1, .int (x1 + (v0 (90 + 9 * ((Int32.toNatClampNeg x2)) + 1)))), (0, .ref (ad (15 * k))), (2, .int x2)]) hx hb dX3_oreInCars_23 rfl hl (by decide) rfl (fun ls hl => ?_)
      refine lv_iinc (v := x2 + 1) (lv' := [(2, .int (x2 + 1)), (1, .int (x1 + (v0 (90 + 9 * ((Int32.toNatClampNeg x2)) + 1)))), (0, .ref (ad (15 * k)))]) hx hb dX3_oreInCars_24 hl (k := 2) rfl rfl (by decide) rfl (fun ls hl => ?_)
      refine lv_goto (tgt := 4) hx hb dX3_oreInCars_27 (by decide) ?_
      exact ih _ _ _ (lv_sub hl [2, 1, 0] rfl) hf
def f3_oreInCars_0 (v0 : Nat → Int32) : Option (Int32) := f3_oreInCars_4 v0 fu 0 0
set_option maxRecDepth 100000 in
set_option maxHeartbeats 4000000 in
theorem w3_oreInCars_0 {p : Program} {l : Launch} {e : Env} {s : State} {m : MethodId} {args : Array Value} {below : List Frame} {meth : Method} {c : Code} {D : va_G} {Y : cYt} {ad : Nat → Nat} {μ : Nat → Nat → Int32} {k : Nat} {v0 : Nat → Int32} (X : cX D Y p s m args meth c cX3_oreInCars 3 RX3 (some .int)) (hk : k < 10) (hM : μ k = v0) (hP : va_P D vwCl (cwW Y ad μ) s.heap) {t : Int32}  {ls : Array Slot} (hl : lv_has ls 3 [(0, .ref (ad (15 * k)))]) (hf : f3_oreInCars_0 v0  = some t) : W p l e rm3_oreInCars s m args below meth c s.heap [] 0 0 (MQ below (QcRead t) args s 0 0 (fun _ => False)) (F0 m 0 ls []) := by
  obtain ⟨⟨hx, hb, hml, hown, hts⟩, hr, hlk, hK⟩ := id X
  replace hf : (f3_oreInCars_4 v0 fu 0 0) = some t := hf
  refine lv_iconst (v := 0) hx hb dX3_oreInCars_0 (by decide) ?_
  refine lv_istore_n (lv' := [(1, .int 0), (0, .ref (ad (15 * k)))]) hx hb dX3_oreInCars_1 rfl hl (by decide) rfl (fun ls hl => ?_)
  refine lv_iconst (v := 0) hx hb dX3_oreInCars_2 (by decide) ?_
  refine lv_istore_n (lv' := [(2, .int 0), (1, .int 0), (0, .ref (ad (15 * k)))]) hx hb dX3_oreInCars_3 rfl hl (by decide) rfl (fun ls hl => ?_)
  exact w3_oreInCars_4 X hk hM hP _ _ _ _ (lv_sub hl [2, 1, 0] rfl) hf
set_option maxRecDepth 100000 in
set_option maxHeartbeats 4000000 in
theorem c3_oreInCars (l : Launch) {D : va_G} {Y : cYt} {ad : Nat → Nat} {μ : Nat → Nat → Int32} {k : Nat} (hk : k < 10) {t : Int32} (hf : f3_oreInCars_0 (μ k) = some t) : Met l yX3_oreInCars uX3_oreInCars rm3_oreInCars (va_Pc [.ref (ad (15 * k))] (cB D Y ad μ)) (QcRead t) 0 0 (fun _ => False) := by
  refine Met.ofW (cc := cX3_oreInCars) (maxL := 3) (ret := (some .int)) (by decide) rfl ?_
  intro p e s m args below meth c s₁ B hml hv
  obtain ⟨rfl, hP, hK⟩ := hv
  have X : cX D Y p s m ([.ref (ad (15 * k))] : List Value).toArray meth c cX3_oreInCars 3 RX3 (some .int) := ⟨⟨B.exec, B.bytes, hml, findClass_of_methodNamed B.named, fun w h => atoms_spec (ws := uX3_oreInCars) B.pre w (List.mem_cons_of_mem _ h)⟩, B.returns, B.notSynchronized, hK⟩
  have hl := lv_entry ([.ref (ad (15 * k))]) (n := 3) (Nat.le_of_ble_eq_true rfl)
  rw [lg_entry_eq]
  generalize (lg_sl ([.ref (ad (15 * k))]) ++ List.replicate (3 - (lg_sl ([.ref (ad (15 * k))])).length) Slot.unset).toArray = ls at hl ⊢
  have hl : lv_has ls 3 [(0, .ref (ad (15 * k)))] := hl
  exact w3_oreInCars_0 X hk rfl hP (lv_sub hl [0] rfl) hf
set_option maxRecDepth 100000 in
set_option maxHeartbeats 4000000 in
theorem k3_oreInCars {p : Program} {l : Launch} {e : Env} {R : Room} {s : State} {m : MethodId} {args : Array Value} {below : List Frame} {meth : Method} {c : Code} {cc : ByteArray} {nL : Nat} {own : String} {ret : Option FieldType} {D : va_G} {Y : cYt} {ad : Nat → Nat} {μ : Nat → Nat → Int32} {H : Heap} {locs : List Loc} {cells slots : Nat} {Q : State → Prop} {pc : Nat} {ls : Array Slot} {rest : List Value} (X : cX D Y p s m args meth c cc nL own ret) {k : Nat} {v0 : Nat → Int32} (hk : k < 10) (hM : μ k = v0) (hP : va_P D vwCl (cwW Y ad μ) H) (hls : ls.size = nL) {index : Nat} (hG : GoodIn gw (wsV own index RX3 yX3_oreInCars uX3_oreInCars)) (hR : rm3_oreInCars.frames + 1 ≤ R.frames ∧ 8 + (3 + 11) + rm3_oreInCars.locals ≤ R.locals) {t : Int32} (hf : f3_oreInCars_0 v0 = some t) (hrest : (rest.map fun v => v.category).sum ≤ 8) (hdg : decode cc pc = .ok (.invokevirtual index, 3)) (hc : cells ≤ R.cells ∧ slots ≤ R.slots) (kk : W p l e R s m args below meth c H locs cells slots Q (F0 m (pc + 3) ls (.int t :: rest))) : W p l e R s m args below meth c H locs cells slots Q (F0 m pc ls (.ref (ad (15 * k)) :: rest)) := by
  subst hM
  exact W.callR (W.runV (As := []) X.1 (c3_oreInCars l hk hf) (cwV 0 X.1.2.2.2.2 hG rfl rfl rfl (by decide +kernel) hR) ⟨cB_bl, va_recv X.2.2.2 hP (ci := 3) (q0 := 15 * k) rfl (cw_ate (by omega) ((cw_st (r := 0) hk (by omega)).trans rfl)), fun U hU hW => ⟨rfl, by rw [hU]; exact hP, va_K.moved hW.alike X.2.2.2⟩⟩ rfl rfl hls rfl (lv_room hrest) hdg hc) kk
/-! OreRailway$State.bumps()I -/
def rm3_bumps : Room := { frames := 0, cells := 0, slots := 0, locals := 0 }
def f3_bumps_4 (v0 : Nat → Int32) : Nat → Int32 → Int32 → Option (Int32)
  | 0, _, _ => none
  | n + 1, x1, x2 => if (v0 162) ≤ x2 then (some x1) else (gd x2 8 ((f3_bumps_4 v0 n) (x1 + (v0 (90 + 9 * ((Int32.toNatClampNeg x2)) + 7))) (x2 + 1)))
set_option maxRecDepth 100000 in
set_option maxHeartbeats 4000000 in
theorem w3_bumps_4 {p : Program} {l : Launch} {e : Env} {s : State} {m : MethodId} {args : Array Value} {below : List Frame} {meth : Method} {c : Code} {D : va_G} {Y : cYt} {ad : Nat → Nat} {μ : Nat → Nat → Int32} {k : Nat} {v0 : Nat → Int32} (X : cX D Y p s m args meth c cX3_bumps 3 RX3 (some .int)) (hk : k < 10) (hM : μ k = v0) (hP : va_P D vwCl (cwW Y ad μ) s.heap) {t : Int32} :
    ∀ (n : Nat) (x1 : Int32) (x2 : Int32) (ls : Array Slot), lv_has ls 3 [(0, .ref (ad (15 * k))), (1, .int x1), (2, .int x2)] → f3_bumps_4 v0 n x1 x2 = some t → W p l e rm3_bumps s m args below meth c s.heap [] 0 0 (MQ below (QcRead t) args s 0 0 (fun _ => False)) (F0 m 4 ls []) := by
  obtain ⟨⟨hx, hb, hml, hown, hts⟩, hr, hlk, hK⟩ := id X
  intro n
  induction n with
  | zero =>
    intro x1 x2 ls hl hf
    cases hf
  | succ n ih =>
    intro x1 x2 ls hl hf
    replace hf : (if (v0 162) ≤ x2 then (some x1) else (gd x2 8 ((f3_bumps_4 v0 n) (x1 + (v0 (90 + 9 * ((Int32.toNatClampNeg x2)) + 7))) (x2 + 1)))) = some t := hf
    refine lv_iload_n hx hb dX3_bumps_4 rfl (lv_at hl 2 rfl) ?_
    refine lv_aload_n hx hb dX3_bumps_5 rfl (lv_at hl 0 rfl) ?_
    refine cr_gSt X hk hM hP (i := 6) (v := .int (v0 162)) (by decide) gfX3_44 rfl dX3_bumps_6 ?_
    refine lv_icmp_ge (tgt := 30) hx hb dX3_bumps_9 (by decide) (fun c1 => ?_) (fun c1 => ?_)
    · have hf := it_t c1 hf
      refine lv_iload_n hx hb dX3_bumps_30 rfl (lv_at hl 1 rfl) ?_
      obtain rfl := so_i hf
      exact rd_i hx hb hr hlk dX3_bumps_31
    · have hf := it_f c1 hf
      refine lv_iload_n hx hb dX3_bumps_12 rfl (lv_at hl 1 rfl) ?_
      refine lv_aload_n hx hb dX3_bumps_13 rfl (lv_at hl 0 rfl) ?_
      refine cr_gSt X hk hM hP (i := 4) (v := .ref (ad (15 * k + 5))) (by decide) gfX3_26 rfl dX3_bumps_14 ?_
      refine lv_iload_n hx hb dX3_bumps_17 rfl (lv_at hl 2 rfl) ?_
      obtain ⟨hi2, hf⟩ := gd_o hf
      refine cr_cars X hk hP hi2 dX3_bumps_18 ?_
      refine cr_gCar X hk hM (j := (Int32.toNatClampNeg x2)) (vin_lt hi2) hP (i := 7) (v := .int (v0 (90 + 9 * ((Int32.toNatClampNeg x2)) + 7))) (by decide) gfX3_157 rfl dX3_bumps_19 ?_
      refine lv_iadd hx hb dX3_bumps_22 ?_
      refine lv_istore_n (lv' := [(1, .int (x1 + (v0 (90 + 9 * ((Int32.toNatClampNeg x2)) + 7)))), (0, .ref (ad (15 * k))), (2, .int x2)]) hx hb dX3_bumps_23 rfl hl (by decide) rfl (fun ls hl => ?_)
      refine lv_iinc (v := x2 + 1) (lv' := [(2, .int (x2 + 1)), (1, .int (x1 + (v0 (90 + 9 * ((Int32.toNatClampNeg x2)) + 7)))), (0, .ref (ad (15 * k)))]) hx hb dX3_bumps_24 hl (k := 2) rfl rfl (by decide) rfl (fun ls hl => ?_)
      refine lv_goto (tgt := 4) hx hb dX3_bumps_27 (by decide) ?_
      exact ih _ _ _ (lv_sub hl [2, 1, 0] rfl) hf
def f3_bumps_0 (v0 : Nat → Int32) : Option (Int32) := f3_bumps_4 v0 fu 0 0
set_option maxRecDepth 100000 in
set_option maxHeartbeats 4000000 in
theorem w3_bumps_0 {p : Program} {l : Launch} {e : Env} {s : State} {m : MethodId} {args : Array Value} {below : List Frame} {meth : Method} {c : Code} {D : va_G} {Y : cYt} {ad : Nat → Nat} {μ : Nat → Nat → Int32} {k : Nat} {v0 : Nat → Int32} (X : cX D Y p s m args meth c cX3_bumps 3 RX3 (some .int)) (hk : k < 10) (hM : μ k = v0) (hP : va_P D vwCl (cwW Y ad μ) s.heap) {t : Int32}  {ls : Array Slot} (hl : lv_has ls 3 [(0, .ref (ad (15 * k)))]) (hf : f3_bumps_0 v0  = some t) : W p l e rm3_bumps s m args below meth c s.heap [] 0 0 (MQ below (QcRead t) args s 0 0 (fun _ => False)) (F0 m 0 ls []) := by
  obtain ⟨⟨hx, hb, hml, hown, hts⟩, hr, hlk, hK⟩ := id X
  replace hf : (f3_bumps_4 v0 fu 0 0) = some t := hf
  refine lv_iconst (v := 0) hx hb dX3_bumps_0 (by decide) ?_
  refine lv_istore_n (lv' := [(1, .int 0), (0, .ref (ad (15 * k)))]) hx hb dX3_bumps_1 rfl hl (by decide) rfl (fun ls hl => ?_)
  refine lv_iconst (v := 0) hx hb dX3_bumps_2 (by decide) ?_
  refine lv_istore_n (lv' := [(2, .int 0), (1, .int 0), (0, .ref (ad (15 * k)))]) hx hb dX3_bumps_3 rfl hl (by decide) rfl (fun ls hl => ?_)
  exact w3_bumps_4 X hk hM hP _ _ _ _ (lv_sub hl [2, 1, 0] rfl) hf
set_option maxRecDepth 100000 in
set_option maxHeartbeats 4000000 in
theorem c3_bumps (l : Launch) {D : va_G} {Y : cYt} {ad : Nat → Nat} {μ : Nat → Nat → Int32} {k : Nat} (hk : k < 10) {t : Int32} (hf : f3_bumps_0 (μ k) = some t) : Met l yX3_bumps uX3_bumps rm3_bumps (va_Pc [.ref (ad (15 * k))] (cB D Y ad μ)) (QcRead t) 0 0 (fun _ => False) := by
  refine Met.ofW (cc := cX3_bumps) (maxL := 3) (ret := (some .int)) (by decide) rfl ?_
  intro p e s m args below meth c s₁ B hml hv
  obtain ⟨rfl, hP, hK⟩ := hv
  have X : cX D Y p s m ([.ref (ad (15 * k))] : List Value).toArray meth c cX3_bumps 3 RX3 (some .int) := ⟨⟨B.exec, B.bytes, hml, findClass_of_methodNamed B.named, fun w h => atoms_spec (ws := uX3_bumps) B.pre w (List.mem_cons_of_mem _ h)⟩, B.returns, B.notSynchronized, hK⟩
  have hl := lv_entry ([.ref (ad (15 * k))]) (n := 3) (Nat.le_of_ble_eq_true rfl)
  rw [lg_entry_eq]
  generalize (lg_sl ([.ref (ad (15 * k))]) ++ List.replicate (3 - (lg_sl ([.ref (ad (15 * k))])).length) Slot.unset).toArray = ls at hl ⊢
  have hl : lv_has ls 3 [(0, .ref (ad (15 * k)))] := hl
  exact w3_bumps_0 X hk rfl hP (lv_sub hl [0] rfl) hf
set_option maxRecDepth 100000 in
set_option maxHeartbeats 4000000 in
theorem k3_bumps {p : Program} {l : Launch} {e : Env} {R : Room} {s : State} {m : MethodId} {args : Array Value} {below : List Frame} {meth : Method} {c : Code} {cc : ByteArray} {nL : Nat} {own : String} {ret : Option FieldType} {D : va_G} {Y : cYt} {ad : Nat → Nat} {μ : Nat → Nat → Int32} {H : Heap} {locs : List Loc} {cells slots : Nat} {Q : State → Prop} {pc : Nat} {ls : Array Slot} {rest : List Value} (X : cX D Y p s m args meth c cc nL own ret) {k : Nat} {v0 : Nat → Int32} (hk : k < 10) (hM : μ k = v0) (hP : va_P D vwCl (cwW Y ad μ) H) (hls : ls.size = nL) {index : Nat} (hG : GoodIn gw (wsV own index RX3 yX3_bumps uX3_bumps)) (hR : rm3_bumps.frames + 1 ≤ R.frames ∧ 8 + (3 + 11) + rm3_bumps.locals ≤ R.locals) {t : Int32} (hf : f3_bumps_0 v0 = some t) (hrest : (rest.map fun v => v.category).sum ≤ 8) (hdg : decode cc pc = .ok (.invokevirtual index, 3)) (hc : cells ≤ R.cells ∧ slots ≤ R.slots) (kk : W p l e R s m args below meth c H locs cells slots Q (F0 m (pc + 3) ls (.int t :: rest))) : W p l e R s m args below meth c H locs cells slots Q (F0 m pc ls (.ref (ad (15 * k)) :: rest)) := by
  subst hM
  exact W.callR (W.runV (As := []) X.1 (c3_bumps l hk hf) (cwV 0 X.1.2.2.2.2 hG rfl rfl rfl (by decide +kernel) hR) ⟨cB_bl, va_recv X.2.2.2 hP (ci := 3) (q0 := 15 * k) rfl (cw_ate (by omega) ((cw_st (r := 0) hk (by omega)).trans rfl)), fun U hU hW => ⟨rfl, by rw [hU]; exact hP, va_K.moved hW.alike X.2.2.2⟩⟩ rfl rfl hls rfl (lv_room hrest) hdg hc) kk
/-! OreRailway$State.number(I)I -/
def rm3_number : Room := { frames := 2, cells := 0, slots := 0, locals := 43 }
def f3_number_0 (v0 : Nat → Int32) (x1 : Int32) : Option (Int32) := if x1 = 0 then (some (v0 163)) else (if x1 = 1 then (some (v0 162)) else (if x1 = 2 then (Option.bind (f3_switchCount_0 v0) (fun t4 => some t4)) else (if x1 = 3 then (some (v0 164)) else (if x1 = 4 then (some (v0 165)) else (if x1 = 5 then (some (v0 166)) else (if x1 = 6 then (Option.bind (f3_oreInCars_0 v0) (fun t9 => some t9)) else (if x1 = 7 then (Option.bind (f3_freeMules_0 v0) (fun t11 => some t11)) else (if x1 = 8 then (some (v0 167)) else (if x1 = 9 then (gd 2 3 (some (v0 (168 + Int32.toNatClampNeg 2)))) else (if x1 = 10 then (gd 2 3 (some (v0 (168 + Int32.toNatClampNeg 2)))) else (if x1 = 11 then (gd 0 3 (some (v0 (168 + Int32.toNatClampNeg 0)))) else (if x1 = 12 then (gd 1 3 (some (v0 (168 + Int32.toNatClampNeg 1)))) else (gd 2 3 (some (v0 (168 + Int32.toNatClampNeg 2))))))))))))))))
set_option maxRecDepth 100000 in
set_option maxHeartbeats 4000000 in
theorem w3_number_0 {p : Program} {l : Launch} {e : Env} {s : State} {m : MethodId} {args : Array Value} {below : List Frame} {meth : Method} {c : Code} {D : va_G} {Y : cYt} {ad : Nat → Nat} {μ : Nat → Nat → Int32} {k : Nat} {v0 : Nat → Int32} (X : cX D Y p s m args meth c cX3_number 2 RX3 (some .int)) (hk : k < 10) (hM : μ k = v0) (hP : va_P D vwCl (cwW Y ad μ) s.heap) {x1 : Int32} {t : Int32}  {ls : Array Slot} (hl : lv_has ls 2 [(0, .ref (ad (15 * k))), (1, .int x1)]) (hf : f3_number_0 v0 x1 = some t) : W p l e rm3_number s m args below meth c s.heap [] 0 0 (MQ below (QcRead t) args s 0 0 (fun _ => False)) (F0 m 0 ls []) := by
  obtain ⟨⟨hx, hb, hml, hown, hts⟩, hr, hlk, hK⟩ := id X
  replace hf : (if x1 = 0 then (some (v0 163)) else (if x1 = 1 then (some (v0 162)) else (if x1 = 2 then (Option.bind (f3_switchCount_0 v0) (fun t4 => some t4)) else (if x1 = 3 then (some (v0 164)) else (if x1 = 4 then (some (v0 165)) else (if x1 = 5 then (some (v0 166)) else (if x1 = 6 then (Option.bind (f3_oreInCars_0 v0) (fun t9 => some t9)) else (if x1 = 7 then (Option.bind (f3_freeMules_0 v0) (fun t11 => some t11)) else (if x1 = 8 then (some (v0 167)) else (if x1 = 9 then (gd 2 3 (some (v0 (168 + Int32.toNatClampNeg 2)))) else (if x1 = 10 then (gd 2 3 (some (v0 (168 + Int32.toNatClampNeg 2)))) else (if x1 = 11 then (gd 0 3 (some (v0 (168 + Int32.toNatClampNeg 0)))) else (if x1 = 12 then (gd 1 3 (some (v0 (168 + Int32.toNatClampNeg 1)))) else (gd 2 3 (some (v0 (168 + Int32.toNatClampNeg 2))))))))))))))))) = some t := hf
  refine lv_iload_n hx hb dX3_number_0 rfl (lv_at hl 1 rfl) ?_
  by_cases c1 : x1 = 0
  · have hf := it_t c1 hf
    refine lv_tableIn (off := 67) (tgt := 68) hx hb dX3_number_1 (by rw [c1]; decide) (by rw [c1]; decide) (by rw [c1]; rfl) (by decide) ?_
    refine lv_aload_n hx hb dX3_number_68 rfl (lv_at hl 0 rfl) ?_
    refine cr_gSt X hk hM hP (i := 7) (v := .int (v0 163)) (by decide) gfX3_48 rfl dX3_number_69 ?_
    obtain rfl := so_i hf
    exact rd_i hx hb hr hlk dX3_number_72
  · have hf := it_f c1 hf
    by_cases c2 : x1 = 1
    · have hf := it_t c2 hf
      refine lv_tableIn (off := 72) (tgt := 73) hx hb dX3_number_1 (by rw [c2]; decide) (by rw [c2]; decide) (by rw [c2]; rfl) (by decide) ?_
      refine lv_aload_n hx hb dX3_number_73 rfl (lv_at hl 0 rfl) ?_
      refine cr_gSt X hk hM hP (i := 6) (v := .int (v0 162)) (by decide) gfX3_44 rfl dX3_number_74 ?_
      obtain rfl := so_i hf
      exact rd_i hx hb hr hlk dX3_number_77
    · have hf := it_f c2 hf
      by_cases c3 : x1 = 2
      · have hf := it_t c3 hf
        refine lv_tableIn (off := 77) (tgt := 78) hx hb dX3_number_1 (by rw [c3]; decide) (by rw [c3]; decide) (by rw [c3]; rfl) (by decide) ?_
        refine lv_aload_n hx hb dX3_number_78 rfl (lv_at hl 0 rfl) ?_
        obtain ⟨t4, ht4, hf⟩ := bd_o hf
        refine k3_switchCount X hk hM hP hl.1 qX3_166 ⟨Nat.le_of_ble_eq_true rfl, Nat.le_of_ble_eq_true rfl⟩ ht4 (Nat.le_of_ble_eq_true rfl) dX3_number_79 ⟨Nat.zero_le _, Nat.zero_le _⟩ ?_
        obtain rfl := so_i hf
        exact rd_i hx hb hr hlk dX3_number_82
      · have hf := it_f c3 hf
        by_cases c5 : x1 = 3
        · have hf := it_t c5 hf
          refine lv_tableIn (off := 82) (tgt := 83) hx hb dX3_number_1 (by rw [c5]; decide) (by rw [c5]; decide) (by rw [c5]; rfl) (by decide) ?_
          refine lv_aload_n hx hb dX3_number_83 rfl (lv_at hl 0 rfl) ?_
          refine cr_gSt X hk hM hP (i := 8) (v := .int (v0 164)) (by decide) gfX3_51 rfl dX3_number_84 ?_
          obtain rfl := so_i hf
          exact rd_i hx hb hr hlk dX3_number_87
        · have hf := it_f c5 hf
          by_cases c6 : x1 = 4
          · have hf := it_t c6 hf
            refine lv_tableIn (off := 87) (tgt := 88) hx hb dX3_number_1 (by rw [c6]; decide) (by rw [c6]; decide) (by rw [c6]; rfl) (by decide) ?_
            refine lv_aload_n hx hb dX3_number_88 rfl (lv_at hl 0 rfl) ?_
            refine cr_gSt X hk hM hP (i := 9) (v := .int (v0 165)) (by decide) gfX3_54 rfl dX3_number_89 ?_
            obtain rfl := so_i hf
            exact rd_i hx hb hr hlk dX3_number_92
          · have hf := it_f c6 hf
            by_cases c7 : x1 = 5
            · have hf := it_t c7 hf
              refine lv_tableIn (off := 92) (tgt := 93) hx hb dX3_number_1 (by rw [c7]; decide) (by rw [c7]; decide) (by rw [c7]; rfl) (by decide) ?_
              refine lv_aload_n hx hb dX3_number_93 rfl (lv_at hl 0 rfl) ?_
              refine cr_gSt X hk hM hP (i := 10) (v := .int (v0 166)) (by decide) gfX3_57 rfl dX3_number_94 ?_
              obtain rfl := so_i hf
              exact rd_i hx hb hr hlk dX3_number_97
            · have hf := it_f c7 hf
              by_cases c8 : x1 = 6
              · have hf := it_t c8 hf
                refine lv_tableIn (off := 97) (tgt := 98) hx hb dX3_number_1 (by rw [c8]; decide) (by rw [c8]; decide) (by rw [c8]; rfl) (by decide) ?_
                refine lv_aload_n hx hb dX3_number_98 rfl (lv_at hl 0 rfl) ?_
                obtain ⟨t9, ht9, hf⟩ := bd_o hf
                refine k3_oreInCars X hk hM hP hl.1 qX3_169 ⟨Nat.le_of_ble_eq_true rfl, Nat.le_of_ble_eq_true rfl⟩ ht9 (Nat.le_of_ble_eq_true rfl) dX3_number_99 ⟨Nat.zero_le _, Nat.zero_le _⟩ ?_
                obtain rfl := so_i hf
                exact rd_i hx hb hr hlk dX3_number_102
              · have hf := it_f c8 hf
                by_cases c10 : x1 = 7
                · have hf := it_t c10 hf
                  refine lv_tableIn (off := 102) (tgt := 103) hx hb dX3_number_1 (by rw [c10]; decide) (by rw [c10]; decide) (by rw [c10]; rfl) (by decide) ?_
                  refine lv_aload_n hx hb dX3_number_103 rfl (lv_at hl 0 rfl) ?_
                  obtain ⟨t11, ht11, hf⟩ := bd_o hf
                  refine k3_freeMules X hk hM hP hl.1 qX3_87 ⟨Nat.le_of_ble_eq_true rfl, Nat.le_of_ble_eq_true rfl⟩ ht11 (Nat.le_of_ble_eq_true rfl) dX3_number_104 ⟨Nat.zero_le _, Nat.zero_le _⟩ ?_
                  obtain rfl := so_i hf
                  exact rd_i hx hb hr hlk dX3_number_107
                · have hf := it_f c10 hf
                  by_cases c12 : x1 = 8
                  · have hf := it_t c12 hf
                    refine lv_tableIn (off := 107) (tgt := 108) hx hb dX3_number_1 (by rw [c12]; decide) (by rw [c12]; decide) (by rw [c12]; rfl) (by decide) ?_
                    refine lv_aload_n hx hb dX3_number_108 rfl (lv_at hl 0 rfl) ?_
                    refine cr_gSt X hk hM hP (i := 11) (v := .int (v0 167)) (by decide) gfX3_60 rfl dX3_number_109 ?_
                    obtain rfl := so_i hf
                    exact rd_i hx hb hr hlk dX3_number_112
                  · have hf := it_f c12 hf
                    by_cases c13 : x1 = 9
                    · have hf := it_t c13 hf
                      refine lv_tableIn (off := 126) (tgt := 127) hx hb dX3_number_1 (by rw [c13]; decide) (by rw [c13]; decide) (by rw [c13]; rfl) (by decide) ?_
                      refine lv_aload_n hx hb dX3_number_127 rfl (lv_at hl 0 rfl) ?_
                      refine cr_gSt X hk hM hP (i := 3) (v := .ref (ad (15 * k + 4))) (by decide) gfX3_21 rfl dX3_number_128 ?_
                      refine lv_iconst (v := 2) hx hb dX3_number_131 (by decide) ?_
                      obtain ⟨hi14, hf⟩ := gd_o hf
                      refine cr_ld4 X hk hM hP hi14 dX3_number_132 ?_
                      obtain rfl := so_i hf
                      exact rd_i hx hb hr hlk dX3_number_133
                    · have hf := it_f c13 hf
                      by_cases c15 : x1 = 10
                      · have hf := it_t c15 hf
                        refine lv_tableIn (off := 126) (tgt := 127) hx hb dX3_number_1 (by rw [c15]; decide) (by rw [c15]; decide) (by rw [c15]; rfl) (by decide) ?_
                        refine lv_aload_n hx hb dX3_number_127 rfl (lv_at hl 0 rfl) ?_
                        refine cr_gSt X hk hM hP (i := 3) (v := .ref (ad (15 * k + 4))) (by decide) gfX3_21 rfl dX3_number_128 ?_
                        refine lv_iconst (v := 2) hx hb dX3_number_131 (by decide) ?_
                        obtain ⟨hi16, hf⟩ := gd_o hf
                        refine cr_ld4 X hk hM hP hi16 dX3_number_132 ?_
                        obtain rfl := so_i hf
                        exact rd_i hx hb hr hlk dX3_number_133
                      · have hf := it_f c15 hf
                        by_cases c17 : x1 = 11
                        · have hf := it_t c17 hf
                          refine lv_tableIn (off := 112) (tgt := 113) hx hb dX3_number_1 (by rw [c17]; decide) (by rw [c17]; decide) (by rw [c17]; rfl) (by decide) ?_
                          refine lv_aload_n hx hb dX3_number_113 rfl (lv_at hl 0 rfl) ?_
                          refine cr_gSt X hk hM hP (i := 3) (v := .ref (ad (15 * k + 4))) (by decide) gfX3_21 rfl dX3_number_114 ?_
                          refine lv_iconst (v := 0) hx hb dX3_number_117 (by decide) ?_
                          obtain ⟨hi18, hf⟩ := gd_o hf
                          refine cr_ld4 X hk hM hP hi18 dX3_number_118 ?_
                          obtain rfl := so_i hf
                          exact rd_i hx hb hr hlk dX3_number_119
                        · have hf := it_f c17 hf
                          by_cases c19 : x1 = 12
                          · have hf := it_t c19 hf
                            refine lv_tableIn (off := 119) (tgt := 120) hx hb dX3_number_1 (by rw [c19]; decide) (by rw [c19]; decide) (by rw [c19]; rfl) (by decide) ?_
                            refine lv_aload_n hx hb dX3_number_120 rfl (lv_at hl 0 rfl) ?_
                            refine cr_gSt X hk hM hP (i := 3) (v := .ref (ad (15 * k + 4))) (by decide) gfX3_21 rfl dX3_number_121 ?_
                            refine lv_iconst (v := 1) hx hb dX3_number_124 (by decide) ?_
                            obtain ⟨hi20, hf⟩ := gd_o hf
                            refine cr_ld4 X hk hM hP hi20 dX3_number_125 ?_
                            obtain rfl := so_i hf
                            exact rd_i hx hb hr hlk dX3_number_126
                          · have hf := it_f c19 hf
                            have nc1 : ¬ Int32.toInt x1 = 0 := ne_ti c1 (by decide)
                            have nc2 : ¬ Int32.toInt x1 = 1 := ne_ti c2 (by decide)
                            have nc3 : ¬ Int32.toInt x1 = 2 := ne_ti c3 (by decide)
                            have nc5 : ¬ Int32.toInt x1 = 3 := ne_ti c5 (by decide)
                            have nc6 : ¬ Int32.toInt x1 = 4 := ne_ti c6 (by decide)
                            have nc7 : ¬ Int32.toInt x1 = 5 := ne_ti c7 (by decide)
                            have nc8 : ¬ Int32.toInt x1 = 6 := ne_ti c8 (by decide)
                            have nc10 : ¬ Int32.toInt x1 = 7 := ne_ti c10 (by decide)
                            have nc12 : ¬ Int32.toInt x1 = 8 := ne_ti c12 (by decide)
                            have nc13 : ¬ Int32.toInt x1 = 9 := ne_ti c13 (by decide)
                            have nc15 : ¬ Int32.toInt x1 = 10 := ne_ti c15 (by decide)
                            have nc17 : ¬ Int32.toInt x1 = 11 := ne_ti c17 (by decide)
                            have nc19 : ¬ Int32.toInt x1 = 12 := ne_ti c19 (by decide)
                            refine lv_tableOut (tgt := 127) hx hb dX3_number_1 (by omega) (by decide) ?_
                            refine lv_aload_n hx hb dX3_number_127 rfl (lv_at hl 0 rfl) ?_
                            refine cr_gSt X hk hM hP (i := 3) (v := .ref (ad (15 * k + 4))) (by decide) gfX3_21 rfl dX3_number_128 ?_
                            refine lv_iconst (v := 2) hx hb dX3_number_131 (by decide) ?_
                            obtain ⟨hi21, hf⟩ := gd_o hf
                            refine cr_ld4 X hk hM hP hi21 dX3_number_132 ?_
                            obtain rfl := so_i hf
                            exact rd_i hx hb hr hlk dX3_number_133
set_option maxRecDepth 100000 in
set_option maxHeartbeats 4000000 in
theorem c3_number (l : Launch) {D : va_G} {Y : cYt} {ad : Nat → Nat} {μ : Nat → Nat → Int32} {k : Nat} (hk : k < 10) (x1 : Int32) {t : Int32} (hf : f3_number_0 (μ k) x1 = some t) : Met l yX3_number uX3_number rm3_number (va_Pc [.ref (ad (15 * k)), .int x1] (cB D Y ad μ)) (QcRead t) 0 0 (fun _ => False) := by
  refine Met.ofW (cc := cX3_number) (maxL := 2) (ret := (some .int)) (by decide) rfl ?_
  intro p e s m args below meth c s₁ B hml hv
  obtain ⟨rfl, hP, hK⟩ := hv
  have X : cX D Y p s m ([.ref (ad (15 * k)), .int x1] : List Value).toArray meth c cX3_number 2 RX3 (some .int) := ⟨⟨B.exec, B.bytes, hml, findClass_of_methodNamed B.named, fun w h => atoms_spec (ws := uX3_number) B.pre w (List.mem_cons_of_mem _ h)⟩, B.returns, B.notSynchronized, hK⟩
  have hl := lv_entry ([.ref (ad (15 * k)), .int x1]) (n := 2) (Nat.le_of_ble_eq_true rfl)
  rw [lg_entry_eq]
  generalize (lg_sl ([.ref (ad (15 * k)), .int x1]) ++ List.replicate (2 - (lg_sl ([.ref (ad (15 * k)), .int x1])).length) Slot.unset).toArray = ls at hl ⊢
  have hl : lv_has ls 2 [(0, .ref (ad (15 * k))), (1, .int x1)] := hl
  exact w3_number_0 X hk rfl hP (lv_sub hl [0, 1] rfl) hf
set_option maxRecDepth 100000 in
set_option maxHeartbeats 4000000 in
theorem k3_number {p : Program} {l : Launch} {e : Env} {R : Room} {s : State} {m : MethodId} {args : Array Value} {below : List Frame} {meth : Method} {c : Code} {cc : ByteArray} {nL : Nat} {own : String} {ret : Option FieldType} {D : va_G} {Y : cYt} {ad : Nat → Nat} {μ : Nat → Nat → Int32} {H : Heap} {locs : List Loc} {cells slots : Nat} {Q : State → Prop} {pc : Nat} {ls : Array Slot} {rest : List Value} (X : cX D Y p s m args meth c cc nL own ret) {k : Nat} {v0 : Nat → Int32} (hk : k < 10) (hM : μ k = v0) (hP : va_P D vwCl (cwW Y ad μ) H) (hls : ls.size = nL) {index : Nat} (hG : GoodIn gw (wsV own index RX3 yX3_number uX3_number)) (hR : rm3_number.frames + 1 ≤ R.frames ∧ 8 + (2 + 11) + rm3_number.locals ≤ R.locals) {x1 : Int32} {t : Int32} (hf : f3_number_0 v0 x1 = some t) (hrest : (rest.map fun v => v.category).sum ≤ 8) (hdg : decode cc pc = .ok (.invokevirtual index, 3)) (hc : cells ≤ R.cells ∧ slots ≤ R.slots) (kk : W p l e R s m args below meth c H locs cells slots Q (F0 m (pc + 3) ls (.int t :: rest))) : W p l e R s m args below meth c H locs cells slots Q (F0 m pc ls (.int x1 :: .ref (ad (15 * k)) :: rest)) := by
  subst hM
  exact W.callR (W.runV (As := [.int x1]) X.1 (c3_number l hk x1 hf) (cwV 1 X.1.2.2.2.2 hG rfl rfl rfl (by decide +kernel) hR) ⟨cB_bl, va_recv X.2.2.2 hP (ci := 3) (q0 := 15 * k) rfl (cw_ate (by omega) ((cw_st (r := 0) hk (by omega)).trans rfl)), fun U hU hW => ⟨rfl, by rw [hU]; exact hP, va_K.moved hW.alike X.2.2.2⟩⟩ rfl rfl hls rfl (lv_room hrest) hdg hc) kk
