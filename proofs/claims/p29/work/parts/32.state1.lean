/-! OreRailway$State.rankOf(I)I -/
def rm3_rankOf : Room := { frames := 1, cells := 0, slots := 0, locals := 23 }
def f3_rankOf_24 (v0 : Nat → Int32) (K4 : Int32 → Int32 → Int32 → Option (Int32)) (x1 : Int32) (x2 : Int32) (x3 : Int32) : Option (Int32) := K4 x1 x2 (x3 + 1)
set_option maxRecDepth 100000 in
set_option maxHeartbeats 4000000 in
theorem w3_rankOf_24 {p : Program} {l : Launch} {e : Env} {s : State} {m : MethodId} {args : Array Value} {below : List Frame} {meth : Method} {c : Code} {D : va_G} {Y : cYt} {ad : Nat → Nat} {μ : Nat → Nat → Int32} {k : Nat} {v0 : Nat → Int32} (X : cX D Y p s m args meth c cX3_rankOf 4 RX3 (some .int)) (hk : k < 10) (hM : μ k = v0) (hP : va_P D vwCl (cwW Y ad μ) s.heap) {x1 : Int32} {x2 : Int32} {x3 : Int32} {t : Int32} {K4 : Int32 → Int32 → Int32 → Option (Int32)} (hK4 : ∀ (x1 : Int32) (x2 : Int32) (x3 : Int32) (ls : Array Slot), lv_has ls 4 [(0, .ref (ad (15 * k))), (1, .int x1), (2, .int x2), (3, .int x3)] → K4 x1 x2 x3 = some t → W p l e rm3_rankOf s m args below meth c s.heap [] 0 0 (MQ below (QcRead t) args s 0 0 (fun _ => False)) (F0 m 4 ls []))  {ls : Array Slot} (hl : lv_has ls 4 [(0, .ref (ad (15 * k))), (1, .int x1), (2, .int x2), (3, .int x3)]) (hf : f3_rankOf_24 v0 K4 x1 x2 x3 = some t) : W p l e rm3_rankOf s m args below meth c s.heap [] 0 0 (MQ below (QcRead t) args s 0 0 (fun _ => False)) (F0 m 24 ls []) := by
  obtain ⟨⟨hx, hb, hml, hown, hts⟩, hr, hlk, hK⟩ := id X
  replace hf : (K4 x1 x2 (x3 + 1)) = some t := hf
  refine lv_iinc (v := x3 + 1) (lv' := [(3, .int (x3 + 1)), (0, .ref (ad (15 * k))), (1, .int x1), (2, .int x2)]) hx hb dX3_rankOf_24 hl (k := 3) rfl rfl (by decide) rfl (fun ls hl => ?_)
  refine lv_goto (tgt := 4) hx hb dX3_rankOf_27 (by decide) ?_
  exact hK4 _ _ _ _ (lv_sub hl [1, 2, 3, 0] rfl) hf
def f3_rankOf_4 (v0 : Nat → Int32) : Nat → Int32 → Int32 → Int32 → Option (Int32)
  | 0, _, _, _ => none
  | n + 1, x1, x2, x3 => if (v0 162) ≤ x3 then (some x2) else (Option.bind (f3_isBefore_0 v0 x3 x1) (fun t2 => if t2 = 0 then (f3_rankOf_24 v0 (f3_rankOf_4 v0 n) x1 x2 x3) else (f3_rankOf_24 v0 (f3_rankOf_4 v0 n) x1 (x2 + 1) x3)))
set_option maxRecDepth 100000 in
set_option maxHeartbeats 4000000 in
theorem w3_rankOf_4 {p : Program} {l : Launch} {e : Env} {s : State} {m : MethodId} {args : Array Value} {below : List Frame} {meth : Method} {c : Code} {D : va_G} {Y : cYt} {ad : Nat → Nat} {μ : Nat → Nat → Int32} {k : Nat} {v0 : Nat → Int32} (X : cX D Y p s m args meth c cX3_rankOf 4 RX3 (some .int)) (hk : k < 10) (hM : μ k = v0) (hP : va_P D vwCl (cwW Y ad μ) s.heap) {t : Int32} :
    ∀ (n : Nat) (x1 : Int32) (x2 : Int32) (x3 : Int32) (ls : Array Slot), lv_has ls 4 [(0, .ref (ad (15 * k))), (1, .int x1), (2, .int x2), (3, .int x3)] → f3_rankOf_4 v0 n x1 x2 x3 = some t → W p l e rm3_rankOf s m args below meth c s.heap [] 0 0 (MQ below (QcRead t) args s 0 0 (fun _ => False)) (F0 m 4 ls []) := by
  obtain ⟨⟨hx, hb, hml, hown, hts⟩, hr, hlk, hK⟩ := id X
  intro n
  induction n with
  | zero =>
    intro x1 x2 x3 ls hl hf
    cases hf
  | succ n ih =>
    intro x1 x2 x3 ls hl hf
    replace hf : (if (v0 162) ≤ x3 then (some x2) else (Option.bind (f3_isBefore_0 v0 x3 x1) (fun t2 => if t2 = 0 then (f3_rankOf_24 v0 (f3_rankOf_4 v0 n) x1 x2 x3) else (f3_rankOf_24 v0 (f3_rankOf_4 v0 n) x1 (x2 + 1) x3)))) = some t := hf
    refine lv_iload_n hx hb dX3_rankOf_4 rfl (lv_at hl 3 rfl) ?_
    refine lv_aload_n hx hb dX3_rankOf_5 rfl (lv_at hl 0 rfl) ?_
    refine cr_gSt X hk hM hP (i := 6) (v := .int (v0 162)) (by decide) gfX3_44 rfl dX3_rankOf_6 ?_
    refine lv_icmp_ge (tgt := 30) hx hb dX3_rankOf_9 (by decide) (fun c1 => ?_) (fun c1 => ?_)
    · have hf := it_t c1 hf
      refine lv_iload_n hx hb dX3_rankOf_30 rfl (lv_at hl 2 rfl) ?_
      obtain rfl := so_i hf
      exact rd_i hx hb hr hlk dX3_rankOf_31
    · have hf := it_f c1 hf
      refine lv_aload_n hx hb dX3_rankOf_12 rfl (lv_at hl 0 rfl) ?_
      refine lv_iload_n hx hb dX3_rankOf_13 rfl (lv_at hl 3 rfl) ?_
      refine lv_iload_n hx hb dX3_rankOf_14 rfl (lv_at hl 1 rfl) ?_
      obtain ⟨t2, ht2, hf⟩ := bd_o hf
      refine k3_isBefore X hk hM hP hl.1 qX3_116 ⟨Nat.le_of_ble_eq_true rfl, Nat.le_of_ble_eq_true rfl⟩ ht2 (Nat.le_of_ble_eq_true rfl) dX3_rankOf_15 ⟨Nat.zero_le _, Nat.zero_le _⟩ ?_
      refine lv_if_eq (tgt := 24) hx hb dX3_rankOf_18 (by decide) (fun c3 => ?_) (fun c3 => ?_)
      · have hf := it_t c3 hf
        exact w3_rankOf_24 X hk hM hP (K4 := (f3_rankOf_4 v0 n)) ih  (lv_sub hl [0, 1, 2, 3] rfl) hf
      · have hf := it_f c3 hf
        refine lv_iinc (v := x2 + 1) (lv' := [(2, .int (x2 + 1)), (0, .ref (ad (15 * k))), (1, .int x1), (3, .int x3)]) hx hb dX3_rankOf_21 hl (k := 2) rfl rfl (by decide) rfl (fun ls hl => ?_)
        exact w3_rankOf_24 X hk hM hP (K4 := (f3_rankOf_4 v0 n)) ih  (lv_sub hl [1, 2, 0, 3] rfl) hf
def f3_rankOf_0 (v0 : Nat → Int32) (x1 : Int32) : Option (Int32) := f3_rankOf_4 v0 fu x1 0 0
set_option maxRecDepth 100000 in
set_option maxHeartbeats 4000000 in
theorem w3_rankOf_0 {p : Program} {l : Launch} {e : Env} {s : State} {m : MethodId} {args : Array Value} {below : List Frame} {meth : Method} {c : Code} {D : va_G} {Y : cYt} {ad : Nat → Nat} {μ : Nat → Nat → Int32} {k : Nat} {v0 : Nat → Int32} (X : cX D Y p s m args meth c cX3_rankOf 4 RX3 (some .int)) (hk : k < 10) (hM : μ k = v0) (hP : va_P D vwCl (cwW Y ad μ) s.heap) {x1 : Int32} {t : Int32}  {ls : Array Slot} (hl : lv_has ls 4 [(0, .ref (ad (15 * k))), (1, .int x1)]) (hf : f3_rankOf_0 v0 x1 = some t) : W p l e rm3_rankOf s m args below meth c s.heap [] 0 0 (MQ below (QcRead t) args s 0 0 (fun _ => False)) (F0 m 0 ls []) := by
  obtain ⟨⟨hx, hb, hml, hown, hts⟩, hr, hlk, hK⟩ := id X
  replace hf : (f3_rankOf_4 v0 fu x1 0 0) = some t := hf
  refine lv_iconst (v := 0) hx hb dX3_rankOf_0 (by decide) ?_
  refine lv_istore_n (lv' := [(2, .int 0), (0, .ref (ad (15 * k))), (1, .int x1)]) hx hb dX3_rankOf_1 rfl hl (by decide) rfl (fun ls hl => ?_)
  refine lv_iconst (v := 0) hx hb dX3_rankOf_2 (by decide) ?_
  refine lv_istore_n (lv' := [(3, .int 0), (2, .int 0), (0, .ref (ad (15 * k))), (1, .int x1)]) hx hb dX3_rankOf_3 rfl hl (by decide) rfl (fun ls hl => ?_)
  exact w3_rankOf_4 X hk hM hP _ _ _ _ _ (lv_sub hl [2, 3, 1, 0] rfl) hf
set_option maxRecDepth 100000 in
set_option maxHeartbeats 4000000 in
theorem c3_rankOf (l : Launch) {D : va_G} {Y : cYt} {ad : Nat → Nat} {μ : Nat → Nat → Int32} {k : Nat} (hk : k < 10) (x1 : Int32) {t : Int32} (hf : f3_rankOf_0 (μ k) x1 = some t) : Met l yX3_rankOf uX3_rankOf rm3_rankOf (va_Pc [.ref (ad (15 * k)), .int x1] (cB D Y ad μ)) (QcRead t) 0 0 (fun _ => False) := by
  refine Met.ofW (cc := cX3_rankOf) (maxL := 4) (ret := (some .int)) (by decide) rfl ?_
  intro p e s m args below meth c s₁ B hml hv
  obtain ⟨rfl, hP, hK⟩ := hv
  have X : cX D Y p s m ([.ref (ad (15 * k)), .int x1] : List Value).toArray meth c cX3_rankOf 4 RX3 (some .int) := ⟨⟨B.exec, B.bytes, hml, findClass_of_methodNamed B.named, fun w h => atoms_spec (ws := uX3_rankOf) B.pre w (List.mem_cons_of_mem _ h)⟩, B.returns, B.notSynchronized, hK⟩
  have hl := lv_entry ([.ref (ad (15 * k)), .int x1]) (n := 4) (Nat.le_of_ble_eq_true rfl)
  rw [lg_entry_eq]
  generalize (lg_sl ([.ref (ad (15 * k)), .int x1]) ++ List.replicate (4 - (lg_sl ([.ref (ad (15 * k)), .int x1])).length) Slot.unset).toArray = ls at hl ⊢
  have hl : lv_has ls 4 [(0, .ref (ad (15 * k))), (1, .int x1)] := hl
  exact w3_rankOf_0 X hk rfl hP (lv_sub hl [0, 1] rfl) hf
set_option maxRecDepth 100000 in
set_option maxHeartbeats 4000000 in
theorem k3_rankOf {p : Program} {l : Launch} {e : Env} {R : Room} {s : State} {m : MethodId} {args : Array Value} {below : List Frame} {meth : Method} {c : Code} {cc : ByteArray} {nL : Nat} {own : String} {ret : Option FieldType} {D : va_G} {Y : cYt} {ad : Nat → Nat} {μ : Nat → Nat → Int32} {H : Heap} {locs : List Loc} {cells slots : Nat} {Q : State → Prop} {pc : Nat} {ls : Array Slot} {rest : List Value} (X : cX D Y p s m args meth c cc nL own ret) {k : Nat} {v0 : Nat → Int32} (hk : k < 10) (hM : μ k = v0) (hP : va_P D vwCl (cwW Y ad μ) H) (hls : ls.size = nL) {index : Nat} (hG : GoodIn gw (wsV own index RX3 yX3_rankOf uX3_rankOf)) (hR : rm3_rankOf.frames + 1 ≤ R.frames ∧ 8 + (4 + 11) + rm3_rankOf.locals ≤ R.locals) {x1 : Int32} {t : Int32} (hf : f3_rankOf_0 v0 x1 = some t) (hrest : (rest.map fun v => v.category).sum ≤ 8) (hdg : decode cc pc = .ok (.invokevirtual index, 3)) (hc : cells ≤ R.cells ∧ slots ≤ R.slots) (kk : W p l e R s m args below meth c H locs cells slots Q (F0 m (pc + 3) ls (.int t :: rest))) : W p l e R s m args below meth c H locs cells slots Q (F0 m pc ls (.int x1 :: .ref (ad (15 * k)) :: rest)) := by
  subst hM
  exact W.callR (W.runV (As := [.int x1]) X.1 (c3_rankOf l hk x1 hf) (cwV 1 X.1.2.2.2.2 hG rfl rfl rfl (by decide +kernel) hR) ⟨cB_bl, va_recv X.2.2.2 hP (ci := 3) (q0 := 15 * k) rfl (cw_ate (by omega) ((cw_st (r := 0) hk (by omega)).trans rfl)), fun U hU hW => ⟨rfl, by rw [hU]; exact hP, va_K.moved hW.alike X.2.2.2⟩⟩ rfl rfl hls rfl (lv_room hrest) hdg hc) kk
/-! OreRailway$State.lineUp()V -/
def rm3_lineUp : Room := { frames := 2, cells := 0, slots := 0, locals := 46 }
def f3_lineUp_63 (v0 : Nat → Int32) (K23 : Int32 → (Nat → Int32) → (Option ((Nat → Int32)))) (x1 : Int32) (v2 : Nat → Int32) : Option ((Nat → Int32)) := K23 (x1 + 1) v2
set_option maxRecDepth 100000 in
set_option maxHeartbeats 4000000 in
theorem w3_lineUp_63 {p : Program} {l : Launch} {e : Env} {s : State} {m : MethodId} {args : Array Value} {below : List Frame} {meth : Method} {c : Code} {D : va_G} {Y : cYt} {ad : Nat → Nat} {μ : Nat → Nat → Int32} {k : Nat} {v0 : Nat → Int32} {v2 : Nat → Int32} (X : cX D Y p s m args meth c cX3_lineUp 3 RX3 none) (hI : cInj ad) (hk : k < 10)  {x1 : Int32} {t : (Nat → Int32)} {K23 : Int32 → (Nat → Int32) → (Option ((Nat → Int32)))} (hK23 : ∀ (x1 : Int32) (v2 : Nat → Int32) (H : Heap) (locs : List Loc), cH D Y ad (s1 (s1 μ (k + 20) v2) k v0) s H locs → ∀ (ls : Array Slot), lv_has ls 3 [(0, .ref (ad (15 * k))), (1, .int x1)] → K23 x1 v2 = some t → W p l e rm3_lineUp s m args below meth c H locs 0 0 (MQ below (va_Qv (fun (_ : Unit) => True) (fun _ t9 => cB D Y ad (s1 (s1 μ (k + 20) t) k v0) t9) (cA ad s.heap.size)) args s 0 0 (cA ad s.heap.size)) (F0 m 23 ls []))  {H : Heap} {locs : List Loc} (hH : cH D Y ad (s1 (s1 μ (k + 20) v2) k v0) s H locs) {ls : Array Slot} (hl : lv_has ls 3 [(0, .ref (ad (15 * k))), (1, .int x1)]) (hf : f3_lineUp_63 v0 K23 x1 v2 = some t) : W p l e rm3_lineUp s m args below meth c H locs 0 0 (MQ below (va_Qv (fun (_ : Unit) => True) (fun _ t9 => cB D Y ad (s1 (s1 μ (k + 20) t) k v0) t9) (cA ad s.heap.size)) args s 0 0 (cA ad s.heap.size)) (F0 m 63 ls []) := by
  obtain ⟨⟨hx, hb, hml, hown, hts⟩, hr, hlk, hK⟩ := id X
  replace hf : (K23 (x1 + 1) v2) = some t := hf
  refine lv_iinc (v := x1 + 1) (lv' := [(1, .int (x1 + 1)), (0, .ref (ad (15 * k)))]) hx hb dX3_lineUp_63 hl (k := 1) rfl rfl (by decide) rfl (fun ls hl => ?_)
  refine lv_goto (tgt := 23) hx hb dX3_lineUp_66 (by decide) ?_
  exact hK23 _ _ _ _ hH _ (lv_sub hl [1, 0] rfl) hf
def f3_lineUp_23 (v0 : Nat → Int32) : Nat → Int32 → (Nat → Int32) → Option ((Nat → Int32))
  | 0, _, _ => none
  | n + 1, x1, v2 => if (v0 162) ≤ x1 then (some (v2)) else (Option.bind (f3_rankOf_0 v0 x1) (fun t2 => gd x1 8 (if (v0 (90 + 9 * ((Int32.toNatClampNeg x1)) + 0)) = 1 then (if 8 ≤ t2 then (f3_lineUp_63 v0 (f3_lineUp_23 v0 n) x1 v2) else (gd t2 8 (f3_lineUp_63 v0 (f3_lineUp_23 v0 n) x1 (upd v2 (Int32.toNatClampNeg t2) x1)))) else (f3_lineUp_63 v0 (f3_lineUp_23 v0 n) x1 v2))))
set_option maxRecDepth 100000 in
set_option maxHeartbeats 4000000 in
theorem w3_lineUp_23 {p : Program} {l : Launch} {e : Env} {s : State} {m : MethodId} {args : Array Value} {below : List Frame} {meth : Method} {c : Code} {D : va_G} {Y : cYt} {ad : Nat → Nat} {μ : Nat → Nat → Int32} {k : Nat} {v0 : Nat → Int32} (X : cX D Y p s m args meth c cX3_lineUp 3 RX3 none) (hI : cInj ad) (hk : k < 10)  {t : (Nat → Int32)} :
    ∀ (n : Nat) (x1 : Int32) (v2 : Nat → Int32) (H : Heap) (locs : List Loc), cH D Y ad (s1 (s1 μ (k + 20) v2) k v0) s H locs → ∀ (ls : Array Slot), lv_has ls 3 [(0, .ref (ad (15 * k))), (1, .int x1)] → f3_lineUp_23 v0 n x1 v2 = some t → W p l e rm3_lineUp s m args below meth c H locs 0 0 (MQ below (va_Qv (fun (_ : Unit) => True) (fun _ t9 => cB D Y ad (s1 (s1 μ (k + 20) t) k v0) t9) (cA ad s.heap.size)) args s 0 0 (cA ad s.heap.size)) (F0 m 23 ls []) := by
  obtain ⟨⟨hx, hb, hml, hown, hts⟩, hr, hlk, hK⟩ := id X
  intro n
  induction n with
  | zero =>
    intro x1 v2 H locs hH ls hl hf
    cases hf
  | succ n ih =>
    intro x1 v2 H locs hH ls hl hf
    replace hf : (if (v0 162) ≤ x1 then (some (v2)) else (Option.bind (f3_rankOf_0 v0 x1) (fun t2 => gd x1 8 (if (v0 (90 + 9 * ((Int32.toNatClampNeg x1)) + 0)) = 1 then (if 8 ≤ t2 then (f3_lineUp_63 v0 (f3_lineUp_23 v0 n) x1 v2) else (gd t2 8 (f3_lineUp_63 v0 (f3_lineUp_23 v0 n) x1 (upd v2 (Int32.toNatClampNeg t2) x1)))) else (f3_lineUp_63 v0 (f3_lineUp_23 v0 n) x1 v2))))) = some t := hf
    refine lv_iload_n hx hb dX3_lineUp_23 rfl (lv_at hl 1 rfl) ?_
    refine lv_aload_n hx hb dX3_lineUp_24 rfl (lv_at hl 0 rfl) ?_
    refine cr_gSt X hk s1_k hH.1 (i := 6) (v := .int (v0 162)) (by decide) gfX3_44 rfl dX3_lineUp_25 ?_
    refine lv_icmp_ge (tgt := 69) hx hb dX3_lineUp_28 (by decide) (fun c1 => ?_) (fun c1 => ?_)
    · have hf := it_t c1 hf
      obtain rfl := so_i hf
      exact cr_vw X hH rfl dX3_lineUp_69
    · have hf := it_f c1 hf
      refine lv_aload_n hx hb dX3_lineUp_31 rfl (lv_at hl 0 rfl) ?_
      refine lv_iload_n hx hb dX3_lineUp_32 rfl (lv_at hl 1 rfl) ?_
      obtain ⟨t2, ht2, hf⟩ := bd_o hf
      refine k3_rankOf X hk s1_k hH.1 hl.1 qX3_113 ⟨Nat.le_of_ble_eq_true rfl, Nat.le_of_ble_eq_true rfl⟩ ht2 (Nat.le_of_ble_eq_true rfl) dX3_lineUp_33 ⟨Nat.zero_le _, Nat.zero_le _⟩ ?_
      refine lv_istore_n (lv' := [(2, .int t2), (0, .ref (ad (15 * k))), (1, .int x1)]) hx hb dX3_lineUp_36 rfl hl (by decide) rfl (fun ls hl => ?_)
      refine lv_aload_n hx hb dX3_lineUp_37 rfl (lv_at hl 1 rfl) ?_
      refine cr_gSt X hk s1_k hH.1 (i := 4) (v := .ref (ad (15 * k + 5))) (by decide) gfX3_26 rfl dX3_lineUp_38 ?_
      refine lv_iload_n hx hb dX3_lineUp_41 rfl (lv_at hl 2 rfl) ?_
      obtain ⟨hi3, hf⟩ := gd_o hf
      refine cr_cars X hk hH.1 hi3 dX3_lineUp_42 ?_
      refine cr_gCar X hk s1_k (j := (Int32.toNatClampNeg x1)) (vin_lt hi3) hH.1 (i := 0) (v := .int (v0 (90 + 9 * ((Int32.toNatClampNeg x1)) + 0))) (by decide) gfX3_67 rfl dX3_lineUp_43 ?_
      refine lv_iconst (v := 1) hx hb dX3_lineUp_46 (by decide) ?_
      refine lv_icmp_ne (tgt := 63) hx hb dX3_lineUp_47 (by decide) (fun c4 => ?_) (fun c4 => ?_)
      · have hf := it_f c4 hf
        exact w3_lineUp_63 X hI hk (K23 := (f3_lineUp_23 v0 n)) ih hH (lv_sub hl [1, 2] rfl) hf
      · have hf := it_t c4 hf
        refine lv_iload_n hx hb dX3_lineUp_50 rfl (lv_at hl 0 rfl) ?_
        refine lv_bipush (v := 8) hx hb dX3_lineUp_51 (by decide) ?_
        refine lv_icmp_ge (tgt := 63) hx hb dX3_lineUp_53 (by decide) (fun c5 => ?_) (fun c5 => ?_)
        · have hf := it_t c5 hf
          exact w3_lineUp_63 X hI hk (K23 := (f3_lineUp_23 v0 n)) ih hH (lv_sub hl [1, 2] rfl) hf
        · have hf := it_f c5 hf
          refine lv_aload_n hx hb dX3_lineUp_56 rfl (lv_at hl 1 rfl) ?_
          refine cr_gSt X hk s1_k hH.1 (i := 5) (v := .ref (ad (15 * k + 6))) (by decide) gfX3_30 rfl dX3_lineUp_57 ?_
          refine lv_iload_n hx hb dX3_lineUp_60 rfl (lv_at hl 0 rfl) ?_
          refine lv_iload_n hx hb dX3_lineUp_61 rfl (lv_at hl 2 rfl) ?_
          obtain ⟨hi6, hf⟩ := gd_o hf
          refine cv_st6 X hI hk hH hi6 dX3_lineUp_62 (fun H locs hH => ?_)
          exact w3_lineUp_63 X hI hk (K23 := (f3_lineUp_23 v0 n)) ih hH (lv_sub hl [1, 2] rfl) hf
def f3_lineUp_2 (v0 : Nat → Int32) : Nat → Int32 → (Nat → Int32) → Option ((Nat → Int32))
  | 0, _, _ => none
  | n + 1, x1, v2 => if 8 ≤ x1 then (f3_lineUp_23 v0 fu 0 v2) else (gd x1 8 ((f3_lineUp_2 v0 n) (x1 + 1) (upd v2 (Int32.toNatClampNeg x1) ((-1)))))
set_option maxRecDepth 100000 in
set_option maxHeartbeats 4000000 in
theorem w3_lineUp_2 {p : Program} {l : Launch} {e : Env} {s : State} {m : MethodId} {args : Array Value} {below : List Frame} {meth : Method} {c : Code} {D : va_G} {Y : cYt} {ad : Nat → Nat} {μ : Nat → Nat → Int32} {k : Nat} {v0 : Nat → Int32} (X : cX D Y p s m args meth c cX3_lineUp 3 RX3 none) (hI : cInj ad) (hk : k < 10)  {t : (Nat → Int32)} :
    ∀ (n : Nat) (x1 : Int32) (v2 : Nat → Int32) (H : Heap) (locs : List Loc), cH D Y ad (s1 (s1 μ (k + 20) v2) k v0) s H locs → ∀ (ls : Array Slot), lv_has ls 3 [(0, .ref (ad (15 * k))), (1, .int x1)] → f3_lineUp_2 v0 n x1 v2 = some t → W p l e rm3_lineUp s m args below meth c H locs 0 0 (MQ below (va_Qv (fun (_ : Unit) => True) (fun _ t9 => cB D Y ad (s1 (s1 μ (k + 20) t) k v0) t9) (cA ad s.heap.size)) args s 0 0 (cA ad s.heap.size)) (F0 m 2 ls []) := by
  obtain ⟨⟨hx, hb, hml, hown, hts⟩, hr, hlk, hK⟩ := id X
  intro n
  induction n with
  | zero =>
    intro x1 v2 H locs hH ls hl hf
    cases hf
  | succ n ih =>
    intro x1 v2 H locs hH ls hl hf
    replace hf : (if 8 ≤ x1 then (f3_lineUp_23 v0 fu 0 v2) else (gd x1 8 ((f3_lineUp_2 v0 n) (x1 + 1) (upd v2 (Int32.toNatClampNeg x1) ((-1)))))) = some t := hf
    refine lv_iload_n hx hb dX3_lineUp_2 rfl (lv_at hl 1 rfl) ?_
    refine lv_bipush (v := 8) hx hb dX3_lineUp_3 (by decide) ?_
    refine lv_icmp_ge (tgt := 21) hx hb dX3_lineUp_5 (by decide) (fun c1 => ?_) (fun c1 => ?_)
    · have hf := it_t c1 hf
      refine lv_iconst (v := 0) hx hb dX3_lineUp_21 (by decide) ?_
      refine lv_istore_n (lv' := [(1, .int 0), (0, .ref (ad (15 * k)))]) hx hb dX3_lineUp_22 rfl hl (by decide) rfl (fun ls hl => ?_)
      exact w3_lineUp_23 X hI hk _ _ _ _ _ hH _ (lv_sub hl [1, 0] rfl) hf
    · have hf := it_f c1 hf
      refine lv_aload_n hx hb dX3_lineUp_8 rfl (lv_at hl 0 rfl) ?_
      refine cr_gSt X hk s1_k hH.1 (i := 5) (v := .ref (ad (15 * k + 6))) (by decide) gfX3_30 rfl dX3_lineUp_9 ?_
      refine lv_iload_n hx hb dX3_lineUp_12 rfl (lv_at hl 1 rfl) ?_
      refine lv_iconst (v := (-1)) hx hb dX3_lineUp_13 (by decide) ?_
      obtain ⟨hi2, hf⟩ := gd_o hf
      refine cv_st6 X hI hk hH hi2 dX3_lineUp_14 (fun H locs hH => ?_)
      refine lv_iinc (v := x1 + 1) (lv' := [(1, .int (x1 + 1)), (0, .ref (ad (15 * k)))]) hx hb dX3_lineUp_15 hl (k := 1) rfl rfl (by decide) rfl (fun ls hl => ?_)
      refine lv_goto (tgt := 2) hx hb dX3_lineUp_18 (by decide) ?_
      exact ih _ _ _ _ hH _ (lv_sub hl [1, 0] rfl) hf
def f3_lineUp_0 (v0 : Nat → Int32) (v2 : Nat → Int32) : Option ((Nat → Int32)) := f3_lineUp_2 v0 fu 0 v2
set_option maxRecDepth 100000 in
set_option maxHeartbeats 4000000 in
theorem w3_lineUp_0 {p : Program} {l : Launch} {e : Env} {s : State} {m : MethodId} {args : Array Value} {below : List Frame} {meth : Method} {c : Code} {D : va_G} {Y : cYt} {ad : Nat → Nat} {μ : Nat → Nat → Int32} {k : Nat} {v0 : Nat → Int32} {v2 : Nat → Int32} (X : cX D Y p s m args meth c cX3_lineUp 3 RX3 none) (hI : cInj ad) (hk : k < 10)  {t : (Nat → Int32)}  {H : Heap} {locs : List Loc} (hH : cH D Y ad (s1 (s1 μ (k + 20) v2) k v0) s H locs) {ls : Array Slot} (hl : lv_has ls 3 [(0, .ref (ad (15 * k)))]) (hf : f3_lineUp_0 v0 v2 = some t) : W p l e rm3_lineUp s m args below meth c H locs 0 0 (MQ below (va_Qv (fun (_ : Unit) => True) (fun _ t9 => cB D Y ad (s1 (s1 μ (k + 20) t) k v0) t9) (cA ad s.heap.size)) args s 0 0 (cA ad s.heap.size)) (F0 m 0 ls []) := by
  obtain ⟨⟨hx, hb, hml, hown, hts⟩, hr, hlk, hK⟩ := id X
  replace hf : (f3_lineUp_2 v0 fu 0 v2) = some t := hf
  refine lv_iconst (v := 0) hx hb dX3_lineUp_0 (by decide) ?_
  refine lv_istore_n (lv' := [(1, .int 0), (0, .ref (ad (15 * k)))]) hx hb dX3_lineUp_1 rfl hl (by decide) rfl (fun ls hl => ?_)
  exact w3_lineUp_2 X hI hk _ _ _ _ _ hH _ (lv_sub hl [1, 0] rfl) hf
set_option maxRecDepth 100000 in
set_option maxHeartbeats 4000000 in
theorem c3_lineUp (l : Launch) {D : va_G} {Y : cYt} {ad : Nat → Nat} {μ : Nat → Nat → Int32} {k : Nat} (hk : k < 10) (hI : cInj ad) (sz : Nat) {t : (Nat → Int32)} (hf : f3_lineUp_0 (μ k) (μ (k + 20)) = some t) : Met l yX3_lineUp uX3_lineUp rm3_lineUp (va_Pc [.ref (ad (15 * k))] (fun U => U.heap.size = sz ∧ cB D Y ad μ U)) (va_Qv (fun (_ : Unit) => True) (fun _ t9 => cB D Y ad (s1 (s1 μ (k + 20) t) k ((μ k))) t9) (cA ad sz)) 0 0 (cA ad sz) := by
  refine Met.ofW (cc := cX3_lineUp) (maxL := 3) (ret := none) (by decide) rfl ?_
  intro p e s m args below meth c s₁ B hml hv
  obtain ⟨rfl, hsz, hP, hK⟩ := hv
  subst hsz
  have X : cX D Y p s m ([.ref (ad (15 * k))] : List Value).toArray meth c cX3_lineUp 3 RX3 none := ⟨⟨B.exec, B.bytes, hml, findClass_of_methodNamed B.named, fun w h => atoms_spec (ws := uX3_lineUp) B.pre w (List.mem_cons_of_mem _ h)⟩, B.returns, B.notSynchronized, hK⟩
  have hl := lv_entry ([.ref (ad (15 * k))]) (n := 3) (Nat.le_of_ble_eq_true rfl)
  rw [lg_entry_eq]
  generalize (lg_sl ([.ref (ad (15 * k))]) ++ List.replicate (3 - (lg_sl ([.ref (ad (15 * k))])).length) Slot.unset).toArray = ls at hl ⊢
  have hl : lv_has ls 3 [(0, .ref (ad (15 * k)))] := hl
  exact w3_lineUp_0 X hI hk (cH_in2 hk ⟨hP, va_S.rf⟩) (lv_sub hl [0] rfl) hf
set_option maxRecDepth 100000 in
set_option maxHeartbeats 4000000 in
theorem km3_lineUp {p : Program} {l : Launch} {e : Env} {R : Room} {s : State} {m : MethodId} {args : Array Value} {below : List Frame} {meth : Method} {c : Code} {cc : ByteArray} {nL : Nat} {own : String} {ret : Option FieldType} {D : va_G} {Y : cYt} {ad : Nat → Nat} {μ : Nat → Nat → Int32} {H : Heap} {locs : List Loc} {cells slots : Nat} {Q : State → Prop} {pc : Nat} {ls : Array Slot} {rest : List Value} (X : cX D Y p s m args meth c cc nL own ret) {k : Nat} (hI : cInj ad) (hk : k < 10) (hH : cH D Y ad μ s H locs) (hls : ls.size = nL) {index : Nat} (hG : GoodIn gw (wsV own index RX3 yX3_lineUp uX3_lineUp)) (hR : rm3_lineUp.frames + 1 ≤ R.frames ∧ 8 + (3 + 11) + rm3_lineUp.locals ≤ R.locals) {t : (Nat → Int32)} (hf : f3_lineUp_0 (μ k) (μ (k + 20)) = some t) (hrest : (rest.map fun v => v.category).sum ≤ 8) (hdg : decode cc pc = .ok (.invokevirtual index, 3)) (hc : cells ≤ R.cells ∧ slots ≤ R.slots) (kk : ∀ (H1 : Heap) (locs1 : List Loc), cH D Y ad (s1 (s1 μ (k + 20) t) k ((μ k))) s H1 locs1 → W p l e R s m args below meth c H1 locs1 cells slots Q (F0 m (pc + 3) ls (rest))) : W p l e R s m args below meth c H locs cells slots Q (F0 m pc ls (.ref (ad (15 * k)) :: rest)) := by
  have hA : ∀ q, cA ad H.size q → cA ad s.heap.size q := fun q h => h.elim Or.inl (fun h => Or.inr (Nat.le_trans hH.2.1 h))
  refine va_callv (va_runV (As := []) (rest := rest) X.1 (c3_lineUp l hk hI H.size hf) (cwV 0 X.1.2.2.2.2 hG rfl rfl rfl (by decide +kernel) hR) ⟨cBs_bl, va_recv X.2.2.2 hH.1 (ci := 3) (q0 := 15 * k) rfl (cw_ate (by omega) ((cw_st (r := 0) hk (by omega)).trans rfl)), fun U hU hW => ⟨rfl, by rw [hU], by rw [hU]; exact hH.1, va_K.moved hW.alike X.2.2.2⟩⟩ rfl rfl hls rfl (lv_room hrest) hdg hc) hH.2 (fun q _ h => hA q h) hA (fun u t9 H1 locs1 ht hvm hw hB hz1 hk1 hS => ?_)
  exact kk H1 locs1 ⟨by rw [← ht]; exact hB.1, hS⟩
set_option maxRecDepth 100000 in
set_option maxHeartbeats 4000000 in
theorem k3_lineUp {p : Program} {l : Launch} {e : Env} {R : Room} {s : State} {m : MethodId} {args : Array Value} {below : List Frame} {meth : Method} {c : Code} {cc : ByteArray} {nL : Nat} {own : String} {ret : Option FieldType} {D : va_G} {Y : cYt} {ad : Nat → Nat} {μ : Nat → Nat → Int32} {H : Heap} {locs : List Loc} {cells slots : Nat} {Q : State → Prop} {pc : Nat} {ls : Array Slot} {rest : List Value} (X : cX D Y p s m args meth c cc nL own ret) {k : Nat} {v0 : Nat → Int32} {v2 : Nat → Int32} (hI : cInj ad) (hk : k < 10) (hH : cH D Y ad (s1 (s1 μ (k + 20) v2) k v0) s H locs) (hls : ls.size = nL) {index : Nat} (hG : GoodIn gw (wsV own index RX3 yX3_lineUp uX3_lineUp)) (hR : rm3_lineUp.frames + 1 ≤ R.frames ∧ 8 + (3 + 11) + rm3_lineUp.locals ≤ R.locals) {t : (Nat → Int32)} (hf : f3_lineUp_0 v0 v2 = some t) (hrest : (rest.map fun v => v.category).sum ≤ 8) (hdg : decode cc pc = .ok (.invokevirtual index, 3)) (hc : cells ≤ R.cells ∧ slots ≤ R.slots) (kk : ∀ (H1 : Heap) (locs1 : List Loc), cH D Y ad (s1 (s1 μ (k + 20) t) k v0) s H1 locs1 → W p l e R s m args below meth c H1 locs1 cells slots Q (F0 m (pc + 3) ls (rest))) : W p l e R s m args below meth c H locs cells slots Q (F0 m pc ls (.ref (ad (15 * k)) :: rest)) := by
  have e0 : (s1 (s1 μ (k + 20) v2) k v0) k = v0 := s1_k
  have e2 : (s1 (s1 μ (k + 20) v2) k v0) (k + 20) = v2 := (s1_n (by omega)).trans s1_k
  have hf2 : f3_lineUp_0 ((s1 (s1 μ (k + 20) v2) k v0) k) ((s1 (s1 μ (k + 20) v2) k v0) (k + 20)) = some t := by rw [e0, e2]; exact hf
  exact km3_lineUp (μ := (s1 (s1 μ (k + 20) v2) k v0)) X hI hk hH hls hG hR hf2 hrest hdg hc (fun H1 locs1 h => kk H1 locs1 (by rw [e0] at h; rw [s1_mv] at h; exact h))
/-! OreRailway$State.gradeAt(I)I -/
def rm3_gradeAt : Room := { frames := 0, cells := 0, slots := 0, locals := 0 }
def f3_gradeAt_25 (v0 : Nat → Int32) (y0 : Int32) : Option (Int32) := some y0
set_option maxRecDepth 100000 in
set_option maxHeartbeats 4000000 in
theorem w3_gradeAt_25 {p : Program} {l : Launch} {e : Env} {s : State} {m : MethodId} {args : Array Value} {below : List Frame} {meth : Method} {c : Code} {D : va_G} {Y : cYt} {ad : Nat → Nat} {μ : Nat → Nat → Int32} {k : Nat} {v0 : Nat → Int32} (X : cX D Y p s m args meth c cX3_gradeAt 3 RX3 (some .int)) (hk : k < 10) (hM : μ k = v0) (hP : va_P D vwCl (cwW Y ad μ) s.heap) {y0 : Int32} {t : Int32}  {ls : Array Slot} (hl : lv_has ls 3 []) (hf : f3_gradeAt_25 v0 y0 = some t) : W p l e rm3_gradeAt s m args below meth c s.heap [] 0 0 (MQ below (QcRead t) args s 0 0 (fun _ => False)) (F0 m 25 ls [.int y0]) := by
  obtain ⟨⟨hx, hb, hml, hown, hts⟩, hr, hlk, hK⟩ := id X
  replace hf : (some y0) = some t := hf
  obtain rfl := so_i hf
  exact rd_i hx hb hr hlk dX3_gradeAt_25
def f3_gradeAt_24 (v0 : Nat → Int32) : Option (Int32) := f3_gradeAt_25 v0 0
set_option maxRecDepth 100000 in
set_option maxHeartbeats 4000000 in
theorem w3_gradeAt_24 {p : Program} {l : Launch} {e : Env} {s : State} {m : MethodId} {args : Array Value} {below : List Frame} {meth : Method} {c : Code} {D : va_G} {Y : cYt} {ad : Nat → Nat} {μ : Nat → Nat → Int32} {k : Nat} {v0 : Nat → Int32} (X : cX D Y p s m args meth c cX3_gradeAt 3 RX3 (some .int)) (hk : k < 10) (hM : μ k = v0) (hP : va_P D vwCl (cwW Y ad μ) s.heap) {t : Int32}  {ls : Array Slot} (hl : lv_has ls 3 []) (hf : f3_gradeAt_24 v0  = some t) : W p l e rm3_gradeAt s m args below meth c s.heap [] 0 0 (MQ below (QcRead t) args s 0 0 (fun _ => False)) (F0 m 24 ls []) := by
  obtain ⟨⟨hx, hb, hml, hown, hts⟩, hr, hlk, hK⟩ := id X
  replace hf : (f3_gradeAt_25 v0 0) = some t := hf
  refine lv_iconst (v := 0) hx hb dX3_gradeAt_24 (by decide) ?_
  exact w3_gradeAt_25 X hk hM hP  (lv_sub hl [] rfl) hf
def f3_gradeAt_0 (v0 : Nat → Int32) (x1 : Int32) : Option (Int32) := if (x1 / 10) < 0 then (f3_gradeAt_24 v0) else (if 30 ≤ (x1 / 10) then (f3_gradeAt_24 v0) else (gd (x1 / 10) 30 (f3_gradeAt_25 v0 (v0 (Int32.toNatClampNeg (x1 / 10))))))
set_option maxRecDepth 100000 in
set_option maxHeartbeats 4000000 in
theorem w3_gradeAt_0 {p : Program} {l : Launch} {e : Env} {s : State} {m : MethodId} {args : Array Value} {below : List Frame} {meth : Method} {c : Code} {D : va_G} {Y : cYt} {ad : Nat → Nat} {μ : Nat → Nat → Int32} {k : Nat} {v0 : Nat → Int32} (X : cX D Y p s m args meth c cX3_gradeAt 3 RX3 (some .int)) (hk : k < 10) (hM : μ k = v0) (hP : va_P D vwCl (cwW Y ad μ) s.heap) {x1 : Int32} {t : Int32}  {ls : Array Slot} (hl : lv_has ls 3 [(0, .ref (ad (15 * k))), (1, .int x1)]) (hf : f3_gradeAt_0 v0 x1 = some t) : W p l e rm3_gradeAt s m args below meth c s.heap [] 0 0 (MQ below (QcRead t) args s 0 0 (fun _ => False)) (F0 m 0 ls []) := by
  obtain ⟨⟨hx, hb, hml, hown, hts⟩, hr, hlk, hK⟩ := id X
  replace hf : (if (x1 / 10) < 0 then (f3_gradeAt_24 v0) else (if 30 ≤ (x1 / 10) then (f3_gradeAt_24 v0) else (gd (x1 / 10) 30 (f3_gradeAt_25 v0 (v0 (Int32.toNatClampNeg (x1 / 10))))))) = some t := hf
  refine lv_iload_n hx hb dX3_gradeAt_0 rfl (lv_at hl 1 rfl) ?_
  refine lv_bipush (v := 10) hx hb dX3_gradeAt_1 (by decide) ?_
  refine lv_idiv hx hb dX3_gradeAt_3 (by decide) ?_
  refine lv_istore_n (lv' := [(2, .int (x1 / 10)), (0, .ref (ad (15 * k))), (1, .int x1)]) hx hb dX3_gradeAt_4 rfl hl (by decide) rfl (fun ls hl => ?_)
  refine lv_iload_n hx hb dX3_gradeAt_5 rfl (lv_at hl 0 rfl) ?_
  refine lv_if_lt (tgt := 24) hx hb dX3_gradeAt_6 (by decide) (fun c1 => ?_) (fun c1 => ?_)
  · have hf := it_t c1 hf
    exact w3_gradeAt_24 X hk hM hP  (lv_sub hl [] rfl) hf
  · have hf := it_f c1 hf
    refine lv_iload_n hx hb dX3_gradeAt_9 rfl (lv_at hl 0 rfl) ?_
    refine lv_bipush (v := 30) hx hb dX3_gradeAt_10 (by decide) ?_
    refine lv_icmp_ge (tgt := 24) hx hb dX3_gradeAt_12 (by decide) (fun c2 => ?_) (fun c2 => ?_)
    · have hf := it_t c2 hf
      exact w3_gradeAt_24 X hk hM hP  (lv_sub hl [] rfl) hf
    · have hf := it_f c2 hf
      refine lv_aload_n hx hb dX3_gradeAt_15 rfl (lv_at hl 1 rfl) ?_
      refine cr_gSt X hk hM hP (i := 0) (v := .ref (ad (15 * k + 1))) (by decide) gfX3_9 rfl dX3_gradeAt_16 ?_
      refine lv_iload_n hx hb dX3_gradeAt_19 rfl (lv_at hl 0 rfl) ?_
      obtain ⟨hi3, hf⟩ := gd_o hf
      refine cr_ld1 X hk hM hP hi3 dX3_gradeAt_20 ?_
      refine lv_goto (tgt := 25) hx hb dX3_gradeAt_21 (by decide) ?_
      exact w3_gradeAt_25 X hk hM hP  (lv_sub hl [] rfl) hf
set_option maxRecDepth 100000 in
set_option maxHeartbeats 4000000 in
theorem c3_gradeAt (l : Launch) {D : va_G} {Y : cYt} {ad : Nat → Nat} {μ : Nat → Nat → Int32} {k : Nat} (hk : k < 10) (x1 : Int32) {t : Int32} (hf : f3_gradeAt_0 (μ k) x1 = some t) : Met l yX3_gradeAt uX3_gradeAt rm3_gradeAt (va_Pc [.ref (ad (15 * k)), .int x1] (cB D Y ad μ)) (QcRead t) 0 0 (fun _ => False) := by
  refine Met.ofW (cc := cX3_gradeAt) (maxL := 3) (ret := (some .int)) (by decide) rfl ?_
  intro p e s m args below meth c s₁ B hml hv
  obtain ⟨rfl, hP, hK⟩ := hv
  have X : cX D Y p s m ([.ref (ad (15 * k)), .int x1] : List Value).toArray meth c cX3_gradeAt 3 RX3 (some .int) := ⟨⟨B.exec, B.bytes, hml, findClass_of_methodNamed B.named, fun w h => atoms_spec (ws := uX3_gradeAt) B.pre w (List.mem_cons_of_mem _ h)⟩, B.returns, B.notSynchronized, hK⟩
  have hl := lv_entry ([.ref (ad (15 * k)), .int x1]) (n := 3) (Nat.le_of_ble_eq_true rfl)
  rw [lg_entry_eq]
  generalize (lg_sl ([.ref (ad (15 * k)), .int x1]) ++ List.replicate (3 - (lg_sl ([.ref (ad (15 * k)), .int x1])).length) Slot.unset).toArray = ls at hl ⊢
  have hl : lv_has ls 3 [(0, .ref (ad (15 * k))), (1, .int x1)] := hl
  exact w3_gradeAt_0 X hk rfl hP (lv_sub hl [0, 1] rfl) hf
set_option maxRecDepth 100000 in
set_option maxHeartbeats 4000000 in
theorem k3_gradeAt {p : Program} {l : Launch} {e : Env} {R : Room} {s : State} {m : MethodId} {args : Array Value} {below : List Frame} {meth : Method} {c : Code} {cc : ByteArray} {nL : Nat} {own : String} {ret : Option FieldType} {D : va_G} {Y : cYt} {ad : Nat → Nat} {μ : Nat → Nat → Int32} {H : Heap} {locs : List Loc} {cells slots : Nat} {Q : State → Prop} {pc : Nat} {ls : Array Slot} {rest : List Value} (X : cX D Y p s m args meth c cc nL own ret) {k : Nat} {v0 : Nat → Int32} (hk : k < 10) (hM : μ k = v0) (hP : va_P D vwCl (cwW Y ad μ) H) (hls : ls.size = nL) {index : Nat} (hG : GoodIn gw (wsV own index RX3 yX3_gradeAt uX3_gradeAt)) (hR : rm3_gradeAt.frames + 1 ≤ R.frames ∧ 8 + (3 + 11) + rm3_gradeAt.locals ≤ R.locals) {x1 : Int32} {t : Int32} (hf : f3_gradeAt_0 v0 x1 = some t) (hrest : (rest.map fun v => v.category).sum ≤ 8) (hdg : decode cc pc = .ok (.invokevirtual index, 3)) (hc : cells ≤ R.cells ∧ slots ≤ R.slots) (kk : W p l e R s m args below meth c H locs cells slots Q (F0 m (pc + 3) ls (.int t :: rest))) : W p l e R s m args below meth c H locs cells slots Q (F0 m pc ls (.int x1 :: .ref (ad (15 * k)) :: rest)) := by
  subst hM
  exact W.callR (W.runV (As := [.int x1]) X.1 (c3_gradeAt l hk x1 hf) (cwV 1 X.1.2.2.2.2 hG rfl rfl rfl (by decide +kernel) hR) ⟨cB_bl, va_recv X.2.2.2 hP (ci := 3) (q0 := 15 * k) rfl (cw_ate (by omega) ((cw_st (r := 0) hk (by omega)).trans rfl)), fun U hU hW => ⟨rfl, by rw [hU]; exact hP, va_K.moved hW.alike X.2.2.2⟩⟩ rfl rfl hls rfl (lv_room hrest) hdg hc) kk
/-! OreRailway$State.nextBefore(I)I -/
def rm3_nextBefore : Room := { frames := 1, cells := 0, slots := 0, locals := 23 }
def f3_nextBefore_49 (v0 : Nat → Int32) (K4 : Int32 → Int32 → Int32 → Option (Int32)) (x1 : Int32) (x2 : Int32) (x3 : Int32) : Option (Int32) := K4 x1 x2 (x3 + 1)
set_option maxRecDepth 100000 in
set_option maxHeartbeats 4000000 in
theorem w3_nextBefore_49 {p : Program} {l : Launch} {e : Env} {s : State} {m : MethodId} {args : Array Value} {below : List Frame} {meth : Method} {c : Code} {D : va_G} {Y : cYt} {ad : Nat → Nat} {μ : Nat → Nat → Int32} {k : Nat} {v0 : Nat → Int32} (X : cX D Y p s m args meth c cX3_nextBefore 4 RX3 (some .int)) (hk : k < 10) (hM : μ k = v0) (hP : va_P D vwCl (cwW Y ad μ) s.heap) {x1 : Int32} {x2 : Int32} {x3 : Int32} {t : Int32} {K4 : Int32 → Int32 → Int32 → Option (Int32)} (hK4 : ∀ (x1 : Int32) (x2 : Int32) (x3 : Int32) (ls : Array Slot), lv_has ls 4 [(0, .ref (ad (15 * k))), (1, .int x1), (2, .int x2), (3, .int x3)] → K4 x1 x2 x3 = some t → W p l e rm3_nextBefore s m args below meth c s.heap [] 0 0 (MQ below (QcRead t) args s 0 0 (fun _ => False)) (F0 m 4 ls []))  {ls : Array Slot} (hl : lv_has ls 4 [(0, .ref (ad (15 * k))), (1, .int x1), (2, .int x2), (3, .int x3)]) (hf : f3_nextBefore_49 v0 K4 x1 x2 x3 = some t) : W p l e rm3_nextBefore s m args below meth c s.heap [] 0 0 (MQ below (QcRead t) args s 0 0 (fun _ => False)) (F0 m 49 ls []) := by
  obtain ⟨⟨hx, hb, hml, hown, hts⟩, hr, hlk, hK⟩ := id X
  replace hf : (K4 x1 x2 (x3 + 1)) = some t := hf
  refine lv_iinc (v := x3 + 1) (lv' := [(3, .int (x3 + 1)), (0, .ref (ad (15 * k))), (1, .int x1), (2, .int x2)]) hx hb dX3_nextBefore_49 hl (k := 3) rfl rfl (by decide) rfl (fun ls hl => ?_)
  refine lv_goto (tgt := 4) hx hb dX3_nextBefore_52 (by decide) ?_
  exact hK4 _ _ _ _ (lv_sub hl [1, 2, 3, 0] rfl) hf
def f3_nextBefore_47 (v0 : Nat → Int32) (K4 : Int32 → Int32 → Int32 → Option (Int32)) (x1 : Int32) (x3 : Int32) : Option (Int32) := f3_nextBefore_49 v0 K4 x1 x3 x3
set_option maxRecDepth 100000 in
set_option maxHeartbeats 4000000 in
theorem w3_nextBefore_47 {p : Program} {l : Launch} {e : Env} {s : State} {m : MethodId} {args : Array Value} {below : List Frame} {meth : Method} {c : Code} {D : va_G} {Y : cYt} {ad : Nat → Nat} {μ : Nat → Nat → Int32} {k : Nat} {v0 : Nat → Int32} (X : cX D Y p s m args meth c cX3_nextBefore 4 RX3 (some .int)) (hk : k < 10) (hM : μ k = v0) (hP : va_P D vwCl (cwW Y ad μ) s.heap) {x1 : Int32} {x3 : Int32} {t : Int32} {K4 : Int32 → Int32 → Int32 → Option (Int32)} (hK4 : ∀ (x1 : Int32) (x2 : Int32) (x3 : Int32) (ls : Array Slot), lv_has ls 4 [(0, .ref (ad (15 * k))), (1, .int x1), (2, .int x2), (3, .int x3)] → K4 x1 x2 x3 = some t → W p l e rm3_nextBefore s m args below meth c s.heap [] 0 0 (MQ below (QcRead t) args s 0 0 (fun _ => False)) (F0 m 4 ls []))  {ls : Array Slot} (hl : lv_has ls 4 [(0, .ref (ad (15 * k))), (1, .int x1), (3, .int x3)]) (hf : f3_nextBefore_47 v0 K4 x1 x3 = some t) : W p l e rm3_nextBefore s m args below meth c s.heap [] 0 0 (MQ below (QcRead t) args s 0 0 (fun _ => False)) (F0 m 47 ls []) := by
  obtain ⟨⟨hx, hb, hml, hown, hts⟩, hr, hlk, hK⟩ := id X
  replace hf : (f3_nextBefore_49 v0 K4 x1 x3 x3) = some t := hf
  refine lv_iload_n hx hb dX3_nextBefore_47 rfl (lv_at hl 2 rfl) ?_
  refine lv_istore_n (lv' := [(2, .int x3), (0, .ref (ad (15 * k))), (1, .int x1), (3, .int x3)]) hx hb dX3_nextBefore_48 rfl hl (by decide) rfl (fun ls hl => ?_)
  exact w3_nextBefore_49 X hk hM hP (K4 := K4) hK4  (lv_sub hl [1, 2, 0, 3] rfl) hf
def f3_nextBefore_4 (v0 : Nat → Int32) : Nat → Int32 → Int32 → Int32 → Option (Int32)
  | 0, _, _, _ => none
  | n + 1, x1, x2, x3 => if (v0 162) ≤ x3 then (some x2) else (Option.bind (f3_isBefore_0 v0 x3 x1) (fun t2 => if t2 = 0 then (f3_nextBefore_49 v0 (f3_nextBefore_4 v0 n) x1 x2 x3) else (if x2 = ((-1)) then (f3_nextBefore_47 v0 (f3_nextBefore_4 v0 n) x1 x3) else (gd x3 8 (gd x2 8 (if (v0 (90 + 9 * ((Int32.toNatClampNeg x2)) + 4)) < (v0 (90 + 9 * ((Int32.toNatClampNeg x3)) + 4)) then (f3_nextBefore_49 v0 (f3_nextBefore_4 v0 n) x1 x2 x3) else (f3_nextBefore_47 v0 (f3_nextBefore_4 v0 n) x1 x3)))))))
set_option maxRecDepth 100000 in
set_option maxHeartbeats 4000000 in
theorem w3_nextBefore_4 {p : Program} {l : Launch} {e : Env} {s : State} {m : MethodId} {args : Array Value} {below : List Frame} {meth : Method} {c : Code} {D : va_G} {Y : cYt} {ad : Nat → Nat} {μ : Nat → Nat → Int32} {k : Nat} {v0 : Nat → Int32} (X : cX D Y p s m args meth c cX3_nextBefore 4 RX3 (some .int)) (hk : k < 10) (hM : μ k = v0) (hP : va_P D vwCl (cwW Y ad μ) s.heap) {t : Int32} :
    ∀ (n : Nat) (x1 : Int32) (x2 : Int32) (x3 : Int32) (ls : Array Slot), lv_has ls 4 [(0, .ref (ad (15 * k))), (1, .int x1), (2, .int x2), (3, .int x3)] → f3_nextBefore_4 v0 n x1 x2 x3 = some t → W p l e rm3_nextBefore s m args below meth c s.heap [] 0 0 (MQ below (QcRead t) args s 0 0 (fun _ => False)) (F0 m 4 ls []) := by
  obtain ⟨⟨hx, hb, hml, hown, hts⟩, hr, hlk, hK⟩ := id X
  intro n
  induction n with
  | zero =>
    intro x1 x2 x3 ls hl hf
    cases hf
  | succ n ih =>
    intro x1 x2 x3 ls hl hf
    replace hf : (if (v0 162) ≤ x3 then (some x2) else (Option.bind (f3_isBefore_0 v0 x3 x1) (fun t2 => if t2 = 0 then (f3_nextBefore_49 v0 (f3_nextBefore_4 v0 n) x1 x2 x3) else (if x2 = ((-1)) then (f3_nextBefore_47 v0 (f3_nextBefore_4 v0 n) x1 x3) else (gd x3 8 (gd x2 8 (if (v0 (90 + 9 * ((Int32.toNatClampNeg x2)) + 4)) < (v0 (90 + 9 * ((Int32.toNatClampNeg x3)) + 4)) then (f3_nextBefore_49 v0 (f3_nextBefore_4 v0 n) x1 x2 x3) else (f3_nextBefore_47 v0 (f3_nextBefore_4 v0 n) x1 x3)))))))) = some t := hf
    refine lv_iload_n hx hb dX3_nextBefore_4 rfl (lv_at hl 3 rfl) ?_
    refine lv_aload_n hx hb dX3_nextBefore_5 rfl (lv_at hl 0 rfl) ?_
    refine cr_gSt X hk hM hP (i := 6) (v := .int (v0 162)) (by decide) gfX3_44 rfl dX3_nextBefore_6 ?_
    refine lv_icmp_ge (tgt := 55) hx hb dX3_nextBefore_9 (by decide) (fun c1 => ?_) (fun c1 => ?_)
    · have hf := it_t c1 hf
      refine lv_iload_n hx hb dX3_nextBefore_55 rfl (lv_at hl 2 rfl) ?_
      obtain rfl := so_i hf
      exact rd_i hx hb hr hlk dX3_nextBefore_56
    · have hf := it_f c1 hf
      refine lv_aload_n hx hb dX3_nextBefore_12 rfl (lv_at hl 0 rfl) ?_
      refine lv_iload_n hx hb dX3_nextBefore_13 rfl (lv_at hl 3 rfl) ?_
      refine lv_iload_n hx hb dX3_nextBefore_14 rfl (lv_at hl 1 rfl) ?_
      obtain ⟨t2, ht2, hf⟩ := bd_o hf
      refine k3_isBefore X hk hM hP hl.1 qX3_116 ⟨Nat.le_of_ble_eq_true rfl, Nat.le_of_ble_eq_true rfl⟩ ht2 (Nat.le_of_ble_eq_true rfl) dX3_nextBefore_15 ⟨Nat.zero_le _, Nat.zero_le _⟩ ?_
      refine lv_if_eq (tgt := 49) hx hb dX3_nextBefore_18 (by decide) (fun c3 => ?_) (fun c3 => ?_)
      · have hf := it_t c3 hf
        exact w3_nextBefore_49 X hk hM hP (K4 := (f3_nextBefore_4 v0 n)) ih  (lv_sub hl [0, 1, 2, 3] rfl) hf
      · have hf := it_f c3 hf
        refine lv_iload_n hx hb dX3_nextBefore_21 rfl (lv_at hl 2 rfl) ?_
        refine lv_iconst (v := (-1)) hx hb dX3_nextBefore_22 (by decide) ?_
        refine lv_icmp_eq (tgt := 47) hx hb dX3_nextBefore_23 (by decide) (fun c4 => ?_) (fun c4 => ?_)
        · have hf := it_t c4 hf
          exact w3_nextBefore_47 X hk hM hP (K4 := (f3_nextBefore_4 v0 n)) ih  (lv_sub hl [0, 1, 3] rfl) hf
        · have hf := it_f c4 hf
          refine lv_aload_n hx hb dX3_nextBefore_26 rfl (lv_at hl 0 rfl) ?_
          refine cr_gSt X hk hM hP (i := 4) (v := .ref (ad (15 * k + 5))) (by decide) gfX3_26 rfl dX3_nextBefore_27 ?_
          refine lv_iload_n hx hb dX3_nextBefore_30 rfl (lv_at hl 3 rfl) ?_
          obtain ⟨hi5, hf⟩ := gd_o hf
          refine cr_cars X hk hP hi5 dX3_nextBefore_31 ?_
          refine cr_gCar X hk hM (j := (Int32.toNatClampNeg x3)) (vin_lt hi5) hP (i := 4) (v := .int (v0 (90 + 9 * ((Int32.toNatClampNeg x3)) + 4))) (by decide) gfX3_120 rfl dX3_nextBefore_32 ?_
          refine lv_aload_n hx hb dX3_nextBefore_35 rfl (lv_at hl 0 rfl) ?_
          refine cr_gSt X hk hM hP (i := 4) (v := .ref (ad (15 * k + 5))) (by decide) gfX3_26 rfl dX3_nextBefore_36 ?_
          refine lv_iload_n hx hb dX3_nextBefore_39 rfl (lv_at hl 2 rfl) ?_
          obtain ⟨hi6, hf⟩ := gd_o hf
          refine cr_cars X hk hP hi6 dX3_nextBefore_40 ?_
          refine cr_gCar X hk hM (j := (Int32.toNatClampNeg x2)) (vin_lt hi6) hP (i := 4) (v := .int (v0 (90 + 9 * ((Int32.toNatClampNeg x2)) + 4))) (by decide) gfX3_120 rfl dX3_nextBefore_41 ?_
          refine lv_icmp_gt (tgt := 49) hx hb dX3_nextBefore_44 (by decide) (fun c7 => ?_) (fun c7 => ?_)
          · have hf := it_t c7 hf
            exact w3_nextBefore_49 X hk hM hP (K4 := (f3_nextBefore_4 v0 n)) ih  (lv_sub hl [0, 1, 2, 3] rfl) hf
          · have hf := it_f c7 hf
            exact w3_nextBefore_47 X hk hM hP (K4 := (f3_nextBefore_4 v0 n)) ih  (lv_sub hl [0, 1, 3] rfl) hf
def f3_nextBefore_0 (v0 : Nat → Int32) (x1 : Int32) : Option (Int32) := f3_nextBefore_4 v0 fu x1 ((-1)) 0
set_option maxRecDepth 100000 in
set_option maxHeartbeats 4000000 in
theorem w3_nextBefore_0 {p : Program} {l : Launch} {e : Env} {s : State} {m : MethodId} {args : Array Value} {below : List Frame} {meth : Method} {c : Code} {D : va_G} {Y : cYt} {ad : Nat → Nat} {μ : Nat → Nat → Int32} {k : Nat} {v0 : Nat → Int32} (X : cX D Y p s m args meth c cX3_nextBefore 4 RX3 (some .int)) (hk : k < 10) (hM : μ k = v0) (hP : va_P D vwCl (cwW Y ad μ) s.heap) {x1 : Int32} {t : Int32}  {ls : Array Slot} (hl : lv_has ls 4 [(0, .ref (ad (15 * k))), (1, .int x1)]) (hf : f3_nextBefore_0 v0 x1 = some t) : W p l e rm3_nextBefore s m args below meth c s.heap [] 0 0 (MQ below (QcRead t) args s 0 0 (fun _ => False)) (F0 m 0 ls []) := by
  obtain ⟨⟨hx, hb, hml, hown, hts⟩, hr, hlk, hK⟩ := id X
  replace hf : (f3_nextBefore_4 v0 fu x1 ((-1)) 0) = some t := hf
  refine lv_iconst (v := (-1)) hx hb dX3_nextBefore_0 (by decide) ?_
  refine lv_istore_n (lv' := [(2, .int ((-1))), (0, .ref (ad (15 * k))), (1, .int x1)]) hx hb dX3_nextBefore_1 rfl hl (by decide) rfl (fun ls hl => ?_)
  refine lv_iconst (v := 0) hx hb dX3_nextBefore_2 (by decide) ?_
  refine lv_istore_n (lv' := [(3, .int 0), (2, .int ((-1))), (0, .ref (ad (15 * k))), (1, .int x1)]) hx hb dX3_nextBefore_3 rfl hl (by decide) rfl (fun ls hl => ?_)
  exact w3_nextBefore_4 X hk hM hP _ _ _ _ _ (lv_sub hl [2, 3, 1, 0] rfl) hf
set_option maxRecDepth 100000 in
set_option maxHeartbeats 4000000 in
theorem c3_nextBefore (l : Launch) {D : va_G} {Y : cYt} {ad : Nat → Nat} {μ : Nat → Nat → Int32} {k : Nat} (hk : k < 10) (x1 : Int32) {t : Int32} (hf : f3_nextBefore_0 (μ k) x1 = some t) : Met l yX3_nextBefore uX3_nextBefore rm3_nextBefore (va_Pc [.ref (ad (15 * k)), .int x1] (cB D Y ad μ)) (QcRead t) 0 0 (fun _ => False) := by
  refine Met.ofW (cc := cX3_nextBefore) (maxL := 4) (ret := (some .int)) (by decide) rfl ?_
  intro p e s m args below meth c s₁ B hml hv
  obtain ⟨rfl, hP, hK⟩ := hv
  have X : cX D Y p s m ([.ref (ad (15 * k)), .int x1] : List Value).toArray meth c cX3_nextBefore 4 RX3 (some .int) := ⟨⟨B.exec, B.bytes, hml, findClass_of_methodNamed B.named, fun w h => atoms_spec (ws := uX3_nextBefore) B.pre w (List.mem_cons_of_mem _ h)⟩, B.returns, B.notSynchronized, hK⟩
  have hl := lv_entry ([.ref (ad (15 * k)), .int x1]) (n := 4) (Nat.le_of_ble_eq_true rfl)
  rw [lg_entry_eq]
  generalize (lg_sl ([.ref (ad (15 * k)), .int x1]) ++ List.replicate (4 - (lg_sl ([.ref (ad (15 * k)), .int x1])).length) Slot.unset).toArray = ls at hl ⊢
  have hl : lv_has ls 4 [(0, .ref (ad (15 * k))), (1, .int x1)] := hl
  exact w3_nextBefore_0 X hk rfl hP (lv_sub hl [0, 1] rfl) hf
set_option maxRecDepth 100000 in
set_option maxHeartbeats 4000000 in
theorem k3_nextBefore {p : Program} {l : Launch} {e : Env} {R : Room} {s : State} {m : MethodId} {args : Array Value} {below : List Frame} {meth : Method} {c : Code} {cc : ByteArray} {nL : Nat} {own : String} {ret : Option FieldType} {D : va_G} {Y : cYt} {ad : Nat → Nat} {μ : Nat → Nat → Int32} {H : Heap} {locs : List Loc} {cells slots : Nat} {Q : State → Prop} {pc : Nat} {ls : Array Slot} {rest : List Value} (X : cX D Y p s m args meth c cc nL own ret) {k : Nat} {v0 : Nat → Int32} (hk : k < 10) (hM : μ k = v0) (hP : va_P D vwCl (cwW Y ad μ) H) (hls : ls.size = nL) {index : Nat} (hG : GoodIn gw (wsV own index RX3 yX3_nextBefore uX3_nextBefore)) (hR : rm3_nextBefore.frames + 1 ≤ R.frames ∧ 8 + (4 + 11) + rm3_nextBefore.locals ≤ R.locals) {x1 : Int32} {t : Int32} (hf : f3_nextBefore_0 v0 x1 = some t) (hrest : (rest.map fun v => v.category).sum ≤ 8) (hdg : decode cc pc = .ok (.invokevirtual index, 3)) (hc : cells ≤ R.cells ∧ slots ≤ R.slots) (kk : W p l e R s m args below meth c H locs cells slots Q (F0 m (pc + 3) ls (.int t :: rest))) : W p l e R s m args below meth c H locs cells slots Q (F0 m pc ls (.int x1 :: .ref (ad (15 * k)) :: rest)) := by
  subst hM
  exact W.callR (W.runV (As := [.int x1]) X.1 (c3_nextBefore l hk x1 hf) (cwV 1 X.1.2.2.2.2 hG rfl rfl rfl (by decide +kernel) hR) ⟨cB_bl, va_recv X.2.2.2 hP (ci := 3) (q0 := 15 * k) rfl (cw_ate (by omega) ((cw_st (r := 0) hk (by omega)).trans rfl)), fun U hU hW => ⟨rfl, by rw [hU]; exact hP, va_K.moved hW.alike X.2.2.2⟩⟩ rfl rfl hls rfl (lv_room hrest) hdg hc) kk
/-! OreRailway$State.bump(LOreRailway$Car;ILOreRailway$Car;)V -/
def rm3_bump : Room := { frames := 1, cells := 0, slots := 0, locals := 21 }
def f3_bump_40 (v0 : Nat → Int32) : Option ((Nat → Int32)) := some (v0)
set_option maxRecDepth 100000 in
set_option maxHeartbeats 4000000 in
theorem w3_bump_40 {p : Program} {l : Launch} {e : Env} {s : State} {m : MethodId} {args : Array Value} {below : List Frame} {meth : Method} {c : Code} {D : va_G} {Y : cYt} {ad : Nat → Nat} {μ : Nat → Nat → Int32} {k : Nat} {v0 : Nat → Int32} (X : cX D Y p s m args meth c cX3_bump 4 RX3 none) (hI : cInj ad) (hk : k < 10)  {t : (Nat → Int32)}  {H : Heap} {locs : List Loc} (hH : cH D Y ad (s1 μ k v0) s H locs) {ls : Array Slot} (hl : lv_has ls 4 []) (hf : f3_bump_40 v0 = some t) : W p l e rm3_bump s m args below meth c H locs 0 0 (MQ below (va_Qv (fun (_ : Unit) => True) (fun _ t9 => cB D Y ad (s1 μ k t) t9) (cA ad s.heap.size)) args s 0 0 (cA ad s.heap.size)) (F0 m 40 ls []) := by
  obtain ⟨⟨hx, hb, hml, hown, hts⟩, hr, hlk, hK⟩ := id X
  replace hf : (some (v0)) = some t := hf
  obtain rfl := so_i hf
  exact cr_vw X hH rfl dX3_bump_40
def f3_bump_30 (jl1 : Nat) (v0 : Nat → Int32) : Option ((Nat → Int32)) := f3_bump_40 (upd v0 (90 + 9 * jl1 + 7) ((v0 (90 + 9 * jl1 + 7)) + 1))
set_option maxRecDepth 100000 in
set_option maxHeartbeats 4000000 in
theorem w3_bump_30 {p : Program} {l : Launch} {e : Env} {s : State} {m : MethodId} {args : Array Value} {below : List Frame} {meth : Method} {c : Code} {D : va_G} {Y : cYt} {ad : Nat → Nat} {μ : Nat → Nat → Int32} {k : Nat} {v0 : Nat → Int32} (X : cX D Y p s m args meth c cX3_bump 4 RX3 none) (hI : cInj ad) (hk : k < 10)  {jl1 : Nat} {t : (Nat → Int32)}  (hjl1 : jl1 < 8) {H : Heap} {locs : List Loc} (hH : cH D Y ad (s1 μ k v0) s H locs) {ls : Array Slot} (hl : lv_has ls 4 [(1, .ref (ad (15 * k + (jl1 + 7))))]) (hf : f3_bump_30 jl1 v0 = some t) : W p l e rm3_bump s m args below meth c H locs 0 0 (MQ below (va_Qv (fun (_ : Unit) => True) (fun _ t9 => cB D Y ad (s1 μ k t) t9) (cA ad s.heap.size)) args s 0 0 (cA ad s.heap.size)) (F0 m 30 ls []) := by
  obtain ⟨⟨hx, hb, hml, hown, hts⟩, hr, hlk, hK⟩ := id X
  replace hf : (f3_bump_40 (upd v0 (90 + 9 * jl1 + 7) ((v0 (90 + 9 * jl1 + 7)) + 1))) = some t := hf
  refine lv_aload_n hx hb dX3_bump_30 rfl (lv_at hl 0 rfl) ?_
  refine lv_dup hx hb dX3_bump_31 rfl ?_
  refine cr_gCar X hk s1_k (j := jl1) hjl1 hH.1 (i := 7) (v := .int (v0 (90 + 9 * jl1 + 7))) (by decide) gfX3_157 rfl dX3_bump_32 ?_
  refine lv_iconst (v := 1) hx hb dX3_bump_35 (by decide) ?_
  refine lv_iadd hx hb dX3_bump_36 ?_
  refine cv_pCar X hI hk hjl1 hH 7 (by decide) gfX3_157 dX3_bump_37 (fun H locs hH => ?_)
  exact w3_bump_40 X hI hk hH (lv_sub hl [] rfl) hf
def f3_bump_0 (jl1 : Nat) (x2 : Int32) (jl3 : Nat) (v0 : Nat → Int32) : Option ((Nat → Int32)) := f3_bump_30 jl1 (upd (upd v0 (90 + 9 * jl1 + 4) (if x2 < ((v0 (90 + 9 * jl3 + 4)) - 10) then ((v0 (90 + 9 * jl3 + 4)) - 10) else x2)) (90 + 9 * jl1 + 3) (if ((upd v0 (90 + 9 * jl1 + 4) (if x2 < ((v0 (90 + 9 * jl3 + 4)) - 10) then ((v0 (90 + 9 * jl3 + 4)) - 10) else x2)) (90 + 9 * jl3 + 3)) < ((upd v0 (90 + 9 * jl1 + 4) (if x2 < ((v0 (90 + 9 * jl3 + 4)) - 10) then ((v0 (90 + 9 * jl3 + 4)) - 10) else x2)) (90 + 9 * jl1 + 3)) then ((upd v0 (90 + 9 * jl1 + 4) (if x2 < ((v0 (90 + 9 * jl3 + 4)) - 10) then ((v0 (90 + 9 * jl3 + 4)) - 10) else x2)) (90 + 9 * jl3 + 3)) else ((upd v0 (90 + 9 * jl1 + 4) (if x2 < ((v0 (90 + 9 * jl3 + 4)) - 10) then ((v0 (90 + 9 * jl3 + 4)) - 10) else x2)) (90 + 9 * jl1 + 3))))
set_option maxRecDepth 100000 in
set_option maxHeartbeats 4000000 in
theorem w3_bump_0 {p : Program} {l : Launch} {e : Env} {s : State} {m : MethodId} {args : Array Value} {below : List Frame} {meth : Method} {c : Code} {D : va_G} {Y : cYt} {ad : Nat → Nat} {μ : Nat → Nat → Int32} {k : Nat} {v0 : Nat → Int32} (X : cX D Y p s m args meth c cX3_bump 4 RX3 none) (hI : cInj ad) (hk : k < 10)  {jl1 : Nat} {x2 : Int32} {jl3 : Nat} {t : (Nat → Int32)}  (hjl1 : jl1 < 8) (hjl3 : jl3 < 8) {H : Heap} {locs : List Loc} (hH : cH D Y ad (s1 μ k v0) s H locs) {ls : Array Slot} (hl : lv_has ls 4 [(1, .ref (ad (15 * k + (jl1 + 7)))), (2, .int x2), (3, .ref (ad (15 * k + (jl3 + 7))))]) (hf : f3_bump_0 jl1 x2 jl3 v0 = some t) : W p l e rm3_bump s m args below meth c H locs 0 0 (MQ below (va_Qv (fun (_ : Unit) => True) (fun _ t9 => cB D Y ad (s1 μ k t) t9) (cA ad s.heap.size)) args s 0 0 (cA ad s.heap.size)) (F0 m 0 ls []) := by
  obtain ⟨⟨hx, hb, hml, hown, hts⟩, hr, hlk, hK⟩ := id X
  replace hf : (f3_bump_30 jl1 (upd (upd v0 (90 + 9 * jl1 + 4) (if x2 < ((v0 (90 + 9 * jl3 + 4)) - 10) then ((v0 (90 + 9 * jl3 + 4)) - 10) else x2)) (90 + 9 * jl1 + 3) (if ((upd v0 (90 + 9 * jl1 + 4) (if x2 < ((v0 (90 + 9 * jl3 + 4)) - 10) then ((v0 (90 + 9 * jl3 + 4)) - 10) else x2)) (90 + 9 * jl3 + 3)) < ((upd v0 (90 + 9 * jl1 + 4) (if x2 < ((v0 (90 + 9 * jl3 + 4)) - 10) then ((v0 (90 + 9 * jl3 + 4)) - 10) else x2)) (90 + 9 * jl1 + 3)) then ((upd v0 (90 + 9 * jl1 + 4) (if x2 < ((v0 (90 + 9 * jl3 + 4)) - 10) then ((v0 (90 + 9 * jl3 + 4)) - 10) else x2)) (90 + 9 * jl3 + 3)) else ((upd v0 (90 + 9 * jl1 + 4) (if x2 < ((v0 (90 + 9 * jl3 + 4)) - 10) then ((v0 (90 + 9 * jl3 + 4)) - 10) else x2)) (90 + 9 * jl1 + 3))))) = some t := hf
  refine lv_aload_n hx hb dX3_bump_0 rfl (lv_at hl 0 rfl) ?_
  refine lv_iload_n hx hb dX3_bump_1 rfl (lv_at hl 1 rfl) ?_
  refine lv_aload_n hx hb dX3_bump_2 rfl (lv_at hl 2 rfl) ?_
  refine cr_gCar X hk s1_k (j := jl3) hjl3 hH.1 (i := 4) (v := .int (v0 (90 + 9 * jl3 + 4))) (by decide) gfX3_120 rfl dX3_bump_3 ?_
  refine lv_bipush (v := 10) hx hb dX3_bump_6 (by decide) ?_
  refine lv_isub hx hb dX3_bump_8 ?_
  refine va_mmax hx hb (hml.trans hl.1.symm) hown (hts _ gmX3_149) (hts _ gl_static_Lib_Math_max_name) (hts _ gi_java_lang_Math) (hts _ gl_code_Lib_Math_max_name) (Nat.le_of_ble_eq_true rfl) (Nat.le_of_ble_eq_true rfl) (Nat.zero_le _) (Nat.zero_le _) dX3_bump_9 ?_
  refine cv_pCar X hI hk hjl1 hH 4 (by decide) gfX3_120 dX3_bump_12 (fun H locs hH => ?_)
  refine lv_aload_n hx hb dX3_bump_15 rfl (lv_at hl 0 rfl) ?_
  refine lv_aload_n hx hb dX3_bump_16 rfl (lv_at hl 0 rfl) ?_
  refine cr_gCar X hk s1_k (j := jl1) hjl1 hH.1 (i := 3) (v := .int ((upd v0 (90 + 9 * jl1 + 4) (if x2 < ((v0 (90 + 9 * jl3 + 4)) - 10) then ((v0 (90 + 9 * jl3 + 4)) - 10) else x2)) (90 + 9 * jl1 + 3))) (by decide) gfX3_135 rfl dX3_bump_17 ?_
  refine lv_aload_n hx hb dX3_bump_20 rfl (lv_at hl 2 rfl) ?_
  refine cr_gCar X hk s1_k (j := jl3) hjl3 hH.1 (i := 3) (v := .int ((upd v0 (90 + 9 * jl1 + 4) (if x2 < ((v0 (90 + 9 * jl3 + 4)) - 10) then ((v0 (90 + 9 * jl3 + 4)) - 10) else x2)) (90 + 9 * jl3 + 3))) (by decide) gfX3_135 rfl dX3_bump_21 ?_
  refine va_mmin hx hb (hml.trans hl.1.symm) hown (hts _ gmX3_154) (hts _ gl_static_Lib_Math_min_name) (hts _ gi_java_lang_Math) (hts _ gl_code_Lib_Math_min_name) (Nat.le_of_ble_eq_true rfl) (Nat.le_of_ble_eq_true rfl) (Nat.zero_le _) (Nat.zero_le _) dX3_bump_24 ?_
  refine cv_pCar X hI hk hjl1 hH 3 (by decide) gfX3_135 dX3_bump_27 (fun H locs hH => ?_)
  exact w3_bump_30 X hI hk hjl1 hH (lv_sub hl [0] rfl) hf
set_option maxRecDepth 100000 in
set_option maxHeartbeats 4000000 in
theorem c3_bump (l : Launch) {D : va_G} {Y : cYt} {ad : Nat → Nat} {μ : Nat → Nat → Int32} {k : Nat} {ja1 : Nat} {ja3 : Nat} (hk : k < 10) (hja1 : ja1 < 8) (hja3 : ja3 < 8) (hI : cInj ad) (sz : Nat) (x2 : Int32) {t : (Nat → Int32)} (hf : f3_bump_0 ja1 x2 ja3 (μ k) = some t) : Met l yX3_bump uX3_bump rm3_bump (va_Pc [.ref (ad (15 * k)), .ref (ad (15 * k + (ja1 + 7))), .int x2, .ref (ad (15 * k + (ja3 + 7)))] (fun U => U.heap.size = sz ∧ cB D Y ad μ U)) (va_Qv (fun (_ : Unit) => True) (fun _ t9 => cB D Y ad (s1 μ k t) t9) (cA ad sz)) 0 0 (cA ad sz) := by
  refine Met.ofW (cc := cX3_bump) (maxL := 4) (ret := none) (by decide) rfl ?_
  intro p e s m args below meth c s₁ B hml hv
  obtain ⟨rfl, hsz, hP, hK⟩ := hv
  subst hsz
  have X : cX D Y p s m ([.ref (ad (15 * k)), .ref (ad (15 * k + (ja1 + 7))), .int x2, .ref (ad (15 * k + (ja3 + 7)))] : List Value).toArray meth c cX3_bump 4 RX3 none := ⟨⟨B.exec, B.bytes, hml, findClass_of_methodNamed B.named, fun w h => atoms_spec (ws := uX3_bump) B.pre w (List.mem_cons_of_mem _ h)⟩, B.returns, B.notSynchronized, hK⟩
  have hl := lv_entry ([.ref (ad (15 * k)), .ref (ad (15 * k + (ja1 + 7))), .int x2, .ref (ad (15 * k + (ja3 + 7)))]) (n := 4) (Nat.le_of_ble_eq_true rfl)
  rw [lg_entry_eq]
  generalize (lg_sl ([.ref (ad (15 * k)), .ref (ad (15 * k + (ja1 + 7))), .int x2, .ref (ad (15 * k + (ja3 + 7)))]) ++ List.replicate (4 - (lg_sl ([.ref (ad (15 * k)), .ref (ad (15 * k + (ja1 + 7))), .int x2, .ref (ad (15 * k + (ja3 + 7)))])).length) Slot.unset).toArray = ls at hl ⊢
  have hl : lv_has ls 4 [(0, .ref (ad (15 * k))), (1, .ref (ad (15 * k + (ja1 + 7)))), (2, .int x2), (3, .ref (ad (15 * k + (ja3 + 7))))] := hl
  exact w3_bump_0 X hI hk hja1 hja3 (cH_in k ⟨hP, va_S.rf⟩) (lv_sub hl [1, 2, 3] rfl) hf
set_option maxRecDepth 100000 in
set_option maxHeartbeats 4000000 in
theorem km3_bump {p : Program} {l : Launch} {e : Env} {R : Room} {s : State} {m : MethodId} {args : Array Value} {below : List Frame} {meth : Method} {c : Code} {cc : ByteArray} {nL : Nat} {own : String} {ret : Option FieldType} {D : va_G} {Y : cYt} {ad : Nat → Nat} {μ : Nat → Nat → Int32} {H : Heap} {locs : List Loc} {cells slots : Nat} {Q : State → Prop} {pc : Nat} {ls : Array Slot} {rest : List Value} (X : cX D Y p s m args meth c cc nL own ret) {k : Nat} {ja1 : Nat} {ja3 : Nat} (hI : cInj ad) (hk : k < 10) (hja1 : ja1 < 8) (hja3 : ja3 < 8) (hH : cH D Y ad μ s H locs) (hls : ls.size = nL) {index : Nat} (hG : GoodIn gw (wsV own index RX3 yX3_bump uX3_bump)) (hR : rm3_bump.frames + 1 ≤ R.frames ∧ 8 + (4 + 11) + rm3_bump.locals ≤ R.locals) {x2 : Int32} {t : (Nat → Int32)} (hf : f3_bump_0 ja1 x2 ja3 (μ k) = some t) (hrest : (rest.map fun v => v.category).sum ≤ 8) (hdg : decode cc pc = .ok (.invokevirtual index, 3)) (hc : cells ≤ R.cells ∧ slots ≤ R.slots) (kk : ∀ (H1 : Heap) (locs1 : List Loc), cH D Y ad (s1 μ k t) s H1 locs1 → W p l e R s m args below meth c H1 locs1 cells slots Q (F0 m (pc + 3) ls (rest))) : W p l e R s m args below meth c H locs cells slots Q (F0 m pc ls (.ref (ad (15 * k + (ja3 + 7))) :: .int x2 :: .ref (ad (15 * k + (ja1 + 7))) :: .ref (ad (15 * k)) :: rest)) := by
  have hA : ∀ q, cA ad H.size q → cA ad s.heap.size q := fun q h => h.elim Or.inl (fun h => Or.inr (Nat.le_trans hH.2.1 h))
  refine va_callv (va_runV (As := [.ref (ad (15 * k + (ja1 + 7))), .int x2, .ref (ad (15 * k + (ja3 + 7)))]) (rest := rest) X.1 (c3_bump l hk hja1 hja3 hI H.size x2 hf) (cwV 3 X.1.2.2.2.2 hG rfl rfl rfl (by decide +kernel) hR) ⟨cBs_bl, va_recv X.2.2.2 hH.1 (ci := 3) (q0 := 15 * k) rfl (cw_ate (by omega) ((cw_st (r := 0) hk (by omega)).trans rfl)), fun U hU hW => ⟨rfl, by rw [hU], by rw [hU]; exact hH.1, va_K.moved hW.alike X.2.2.2⟩⟩ rfl rfl hls rfl (lv_room hrest) hdg hc) hH.2 (fun q _ h => hA q h) hA (fun u t9 H1 locs1 ht hvm hw hB hz1 hk1 hS => ?_)
  exact kk H1 locs1 ⟨by rw [← ht]; exact hB.1, hS⟩
set_option maxRecDepth 100000 in
set_option maxHeartbeats 4000000 in
theorem k3_bump {p : Program} {l : Launch} {e : Env} {R : Room} {s : State} {m : MethodId} {args : Array Value} {below : List Frame} {meth : Method} {c : Code} {cc : ByteArray} {nL : Nat} {own : String} {ret : Option FieldType} {D : va_G} {Y : cYt} {ad : Nat → Nat} {μ : Nat → Nat → Int32} {H : Heap} {locs : List Loc} {cells slots : Nat} {Q : State → Prop} {pc : Nat} {ls : Array Slot} {rest : List Value} (X : cX D Y p s m args meth c cc nL own ret) {k : Nat} {v0 : Nat → Int32} {ja1 : Nat} {ja3 : Nat} (hI : cInj ad) (hk : k < 10) (hja1 : ja1 < 8) (hja3 : ja3 < 8) (hH : cH D Y ad (s1 μ k v0) s H locs) (hls : ls.size = nL) {index : Nat} (hG : GoodIn gw (wsV own index RX3 yX3_bump uX3_bump)) (hR : rm3_bump.frames + 1 ≤ R.frames ∧ 8 + (4 + 11) + rm3_bump.locals ≤ R.locals) {x2 : Int32} {t : (Nat → Int32)} (hf : f3_bump_0 ja1 x2 ja3 v0 = some t) (hrest : (rest.map fun v => v.category).sum ≤ 8) (hdg : decode cc pc = .ok (.invokevirtual index, 3)) (hc : cells ≤ R.cells ∧ slots ≤ R.slots) (kk : ∀ (H1 : Heap) (locs1 : List Loc), cH D Y ad (s1 μ k t) s H1 locs1 → W p l e R s m args below meth c H1 locs1 cells slots Q (F0 m (pc + 3) ls (rest))) : W p l e R s m args below meth c H locs cells slots Q (F0 m pc ls (.ref (ad (15 * k + (ja3 + 7))) :: .int x2 :: .ref (ad (15 * k + (ja1 + 7))) :: .ref (ad (15 * k)) :: rest)) := by
  have hf2 : f3_bump_0 ja1 x2 ja3 (s1 μ k v0 k) = some t := by rw [s1_k]; exact hf
  exact km3_bump (μ := s1 μ k v0) X hI hk hja1 hja3 hH hls hG hR hf2 hrest hdg hc (fun H1 locs1 h => kk H1 locs1 (by rw [s1_s1] at h; exact h))
/-! OreRailway$State.runawaySection(III)I -/
def rm3_runawaySection : Room := { frames := 1, cells := 0, slots := 0, locals := 21 }
def f3_runawaySection_58 (v0 : Nat → Int32) : Option (Int32) := some ((-1))
set_option maxRecDepth 100000 in
set_option maxHeartbeats 4000000 in
theorem w3_runawaySection_58 {p : Program} {l : Launch} {e : Env} {s : State} {m : MethodId} {args : Array Value} {below : List Frame} {meth : Method} {c : Code} {D : va_G} {Y : cYt} {ad : Nat → Nat} {μ : Nat → Nat → Int32} {k : Nat} {v0 : Nat → Int32} (X : cX D Y p s m args meth c cX3_runawaySection 5 RX3 (some .int)) (hk : k < 10) (hM : μ k = v0) (hP : va_P D vwCl (cwW Y ad μ) s.heap) {t : Int32}  {ls : Array Slot} (hl : lv_has ls 5 []) (hf : f3_runawaySection_58 v0  = some t) : W p l e rm3_runawaySection s m args below meth c s.heap [] 0 0 (MQ below (QcRead t) args s 0 0 (fun _ => False)) (F0 m 58 ls []) := by
  obtain ⟨⟨hx, hb, hml, hown, hts⟩, hr, hlk, hK⟩ := id X
  replace hf : (some ((-1))) = some t := hf
  refine lv_iconst (v := (-1)) hx hb dX3_runawaySection_58 (by decide) ?_
  obtain rfl := so_i hf
  exact rd_i hx hb hr hlk dX3_runawaySection_59
def f3_runawaySection_52 (v0 : Nat → Int32) (K12 : Int32 → Int32 → Int32 → Option (Int32)) (x2 : Int32) (x3 : Int32) (x4 : Int32) : Option (Int32) := K12 x2 x3 (x4 + 1)
set_option maxRecDepth 100000 in
set_option maxHeartbeats 4000000 in
theorem w3_runawaySection_52 {p : Program} {l : Launch} {e : Env} {s : State} {m : MethodId} {args : Array Value} {below : List Frame} {meth : Method} {c : Code} {D : va_G} {Y : cYt} {ad : Nat → Nat} {μ : Nat → Nat → Int32} {k : Nat} {v0 : Nat → Int32} (X : cX D Y p s m args meth c cX3_runawaySection 5 RX3 (some .int)) (hk : k < 10) (hM : μ k = v0) (hP : va_P D vwCl (cwW Y ad μ) s.heap) {x2 : Int32} {x3 : Int32} {x4 : Int32} {t : Int32} {K12 : Int32 → Int32 → Int32 → Option (Int32)} (hK12 : ∀ (x2 : Int32) (x3 : Int32) (x4 : Int32) (ls : Array Slot), lv_has ls 5 [(0, .ref (ad (15 * k))), (2, .int x2), (3, .int x3), (4, .int x4)] → K12 x2 x3 x4 = some t → W p l e rm3_runawaySection s m args below meth c s.heap [] 0 0 (MQ below (QcRead t) args s 0 0 (fun _ => False)) (F0 m 12 ls []))  {ls : Array Slot} (hl : lv_has ls 5 [(0, .ref (ad (15 * k))), (2, .int x2), (3, .int x3), (4, .int x4)]) (hf : f3_runawaySection_52 v0 K12 x2 x3 x4 = some t) : W p l e rm3_runawaySection s m args below meth c s.heap [] 0 0 (MQ below (QcRead t) args s 0 0 (fun _ => False)) (F0 m 52 ls []) := by
  obtain ⟨⟨hx, hb, hml, hown, hts⟩, hr, hlk, hK⟩ := id X
  replace hf : (K12 x2 x3 (x4 + 1)) = some t := hf
  refine lv_iinc (v := x4 + 1) (lv' := [(4, .int (x4 + 1)), (0, .ref (ad (15 * k))), (2, .int x2), (3, .int x3)]) hx hb dX3_runawaySection_52 hl (k := 3) rfl rfl (by decide) rfl (fun ls hl => ?_)
  refine lv_goto (tgt := 12) hx hb dX3_runawaySection_55 (by decide) ?_
  exact hK12 _ _ _ _ (lv_sub hl [1, 2, 3, 0] rfl) hf
def f3_runawaySection_12 (v0 : Nat → Int32) : Nat → Int32 → Int32 → Int32 → Option (Int32)
  | 0, _, _, _ => none
  | n + 1, x2, x3, x4 => if 30 ≤ x4 then (f3_runawaySection_58 v0) else (if x2 < (x4 * 10) then (f3_runawaySection_58 v0) else (gd x4 30 (if (v0 (30 + Int32.toNatClampNeg x4)) ≤ 0 then (f3_runawaySection_52 v0 (f3_runawaySection_12 v0 n) x2 x3 x4) else (gd x4 30 (if x3 ≤ (v0 (30 + Int32.toNatClampNeg x4)) then (f3_runawaySection_52 v0 (f3_runawaySection_12 v0 n) x2 x3 x4) else (some x4))))))
set_option maxRecDepth 100000 in
set_option maxHeartbeats 4000000 in
theorem w3_runawaySection_12 {p : Program} {l : Launch} {e : Env} {s : State} {m : MethodId} {args : Array Value} {below : List Frame} {meth : Method} {c : Code} {D : va_G} {Y : cYt} {ad : Nat → Nat} {μ : Nat → Nat → Int32} {k : Nat} {v0 : Nat → Int32} (X : cX D Y p s m args meth c cX3_runawaySection 5 RX3 (some .int)) (hk : k < 10) (hM : μ k = v0) (hP : va_P D vwCl (cwW Y ad μ) s.heap) {t : Int32} :
    ∀ (n : Nat) (x2 : Int32) (x3 : Int32) (x4 : Int32) (ls : Array Slot), lv_has ls 5 [(0, .ref (ad (15 * k))), (2, .int x2), (3, .int x3), (4, .int x4)] → f3_runawaySection_12 v0 n x2 x3 x4 = some t → W p l e rm3_runawaySection s m args below meth c s.heap [] 0 0 (MQ below (QcRead t) args s 0 0 (fun _ => False)) (F0 m 12 ls []) := by
  obtain ⟨⟨hx, hb, hml, hown, hts⟩, hr, hlk, hK⟩ := id X
  intro n
  induction n with
  | zero =>
    intro x2 x3 x4 ls hl hf
    cases hf
  | succ n ih =>
    intro x2 x3 x4 ls hl hf
    replace hf : (if 30 ≤ x4 then (f3_runawaySection_58 v0) else (if x2 < (x4 * 10) then (f3_runawaySection_58 v0) else (gd x4 30 (if (v0 (30 + Int32.toNatClampNeg x4)) ≤ 0 then (f3_runawaySection_52 v0 (f3_runawaySection_12 v0 n) x2 x3 x4) else (gd x4 30 (if x3 ≤ (v0 (30 + Int32.toNatClampNeg x4)) then (f3_runawaySection_52 v0 (f3_runawaySection_12 v0 n) x2 x3 x4) else (some x4))))))) = some t := hf
    refine lv_iload hx hb dX3_runawaySection_12 (lv_at hl 3 rfl) ?_
    refine lv_bipush (v := 30) hx hb dX3_runawaySection_14 (by decide) ?_
    refine lv_icmp_ge (tgt := 58) hx hb dX3_runawaySection_16 (by decide) (fun c1 => ?_) (fun c1 => ?_)
    · have hf := it_t c1 hf
      exact w3_runawaySection_58 X hk hM hP  (lv_sub hl [] rfl) hf
    · have hf := it_f c1 hf
      refine lv_iload hx hb dX3_runawaySection_19 (lv_at hl 3 rfl) ?_
      refine lv_bipush (v := 10) hx hb dX3_runawaySection_21 (by decide) ?_
      refine lv_imul hx hb dX3_runawaySection_23 ?_
      refine lv_iload_n hx hb dX3_runawaySection_24 rfl (lv_at hl 1 rfl) ?_
      refine lv_icmp_gt (tgt := 58) hx hb dX3_runawaySection_25 (by decide) (fun c2 => ?_) (fun c2 => ?_)
      · have hf := it_t c2 hf
        exact w3_runawaySection_58 X hk hM hP  (lv_sub hl [] rfl) hf
      · have hf := it_f c2 hf
        refine lv_aload_n hx hb dX3_runawaySection_28 rfl (lv_at hl 0 rfl) ?_
        refine cr_gSt X hk hM hP (i := 1) (v := .ref (ad (15 * k + 2))) (by decide) gfX3_15 rfl dX3_runawaySection_29 ?_
        refine lv_iload hx hb dX3_runawaySection_32 (lv_at hl 3 rfl) ?_
        obtain ⟨hi3, hf⟩ := gd_o hf
        refine cr_ld2 X hk hM hP hi3 dX3_runawaySection_34 ?_
        refine lv_if_le (tgt := 52) hx hb dX3_runawaySection_35 (by decide) (fun c4 => ?_) (fun c4 => ?_)
        · have hf := it_t c4 hf
          exact w3_runawaySection_52 X hk hM hP (K12 := (f3_runawaySection_12 v0 n)) ih  (lv_sub hl [0, 1, 2, 3] rfl) hf
        · have hf := it_f c4 hf
          refine lv_iload_n hx hb dX3_runawaySection_38 rfl (lv_at hl 2 rfl) ?_
          refine lv_aload_n hx hb dX3_runawaySection_39 rfl (lv_at hl 0 rfl) ?_
          refine cr_gSt X hk hM hP (i := 1) (v := .ref (ad (15 * k + 2))) (by decide) gfX3_15 rfl dX3_runawaySection_40 ?_
          refine lv_iload hx hb dX3_runawaySection_43 (lv_at hl 3 rfl) ?_
          obtain ⟨hi5, hf⟩ := gd_o hf
          refine cr_ld2 X hk hM hP hi5 dX3_runawaySection_45 ?_
          refine lv_icmp_le (tgt := 52) hx hb dX3_runawaySection_46 (by decide) (fun c6 => ?_) (fun c6 => ?_)
          · have hf := it_t c6 hf
            exact w3_runawaySection_52 X hk hM hP (K12 := (f3_runawaySection_12 v0 n)) ih  (lv_sub hl [0, 1, 2, 3] rfl) hf
          · have hf := it_f c6 hf
            refine lv_iload hx hb dX3_runawaySection_49 (lv_at hl 3 rfl) ?_
            obtain rfl := so_i hf
            exact rd_i hx hb hr hlk dX3_runawaySection_51
def f3_runawaySection_0 (v0 : Nat → Int32) (x1 : Int32) (x2 : Int32) (x3 : Int32) : Option (Int32) := f3_runawaySection_12 v0 fu x2 x3 ((if 0 < (x1 / 10) then (x1 / 10) else 0) + 1)
set_option maxRecDepth 100000 in
set_option maxHeartbeats 4000000 in
theorem w3_runawaySection_0 {p : Program} {l : Launch} {e : Env} {s : State} {m : MethodId} {args : Array Value} {below : List Frame} {meth : Method} {c : Code} {D : va_G} {Y : cYt} {ad : Nat → Nat} {μ : Nat → Nat → Int32} {k : Nat} {v0 : Nat → Int32} (X : cX D Y p s m args meth c cX3_runawaySection 5 RX3 (some .int)) (hk : k < 10) (hM : μ k = v0) (hP : va_P D vwCl (cwW Y ad μ) s.heap) {x1 : Int32} {x2 : Int32} {x3 : Int32} {t : Int32}  {ls : Array Slot} (hl : lv_has ls 5 [(0, .ref (ad (15 * k))), (1, .int x1), (2, .int x2), (3, .int x3)]) (hf : f3_runawaySection_0 v0 x1 x2 x3 = some t) : W p l e rm3_runawaySection s m args below meth c s.heap [] 0 0 (MQ below (QcRead t) args s 0 0 (fun _ => False)) (F0 m 0 ls []) := by
  obtain ⟨⟨hx, hb, hml, hown, hts⟩, hr, hlk, hK⟩ := id X
  replace hf : (f3_runawaySection_12 v0 fu x2 x3 ((if 0 < (x1 / 10) then (x1 / 10) else 0) + 1)) = some t := hf
  refine lv_iconst (v := 0) hx hb dX3_runawaySection_0 (by decide) ?_
  refine lv_iload_n hx hb dX3_runawaySection_1 rfl (lv_at hl 1 rfl) ?_
  refine lv_bipush (v := 10) hx hb dX3_runawaySection_2 (by decide) ?_
  refine lv_idiv hx hb dX3_runawaySection_4 (by decide) ?_
  refine va_mmax hx hb (hml.trans hl.1.symm) hown (hts _ gmX3_149) (hts _ gl_static_Lib_Math_max_name) (hts _ gi_java_lang_Math) (hts _ gl_code_Lib_Math_max_name) (Nat.le_of_ble_eq_true rfl) (Nat.le_of_ble_eq_true rfl) (Nat.zero_le _) (Nat.zero_le _) dX3_runawaySection_5 ?_
  refine lv_iconst (v := 1) hx hb dX3_runawaySection_8 (by decide) ?_
  refine lv_iadd hx hb dX3_runawaySection_9 ?_
  refine lv_istore (lv' := [(4, .int ((if 0 < (x1 / 10) then (x1 / 10) else 0) + 1)), (0, .ref (ad (15 * k))), (1, .int x1), (2, .int x2), (3, .int x3)]) hx hb dX3_runawaySection_10 hl (by decide) rfl (fun ls hl => ?_)
  exact w3_runawaySection_12 X hk hM hP _ _ _ _ _ (lv_sub hl [1, 3, 4, 0] rfl) hf
set_option maxRecDepth 100000 in
set_option maxHeartbeats 4000000 in
theorem c3_runawaySection (l : Launch) {D : va_G} {Y : cYt} {ad : Nat → Nat} {μ : Nat → Nat → Int32} {k : Nat} (hk : k < 10) (x1 : Int32) (x2 : Int32) (x3 : Int32) {t : Int32} (hf : f3_runawaySection_0 (μ k) x1 x2 x3 = some t) : Met l yX3_runawaySection uX3_runawaySection rm3_runawaySection (va_Pc [.ref (ad (15 * k)), .int x1, .int x2, .int x3] (cB D Y ad μ)) (QcRead t) 0 0 (fun _ => False) := by
  refine Met.ofW (cc := cX3_runawaySection) (maxL := 5) (ret := (some .int)) (by decide) rfl ?_
  intro p e s m args below meth c s₁ B hml hv
  obtain ⟨rfl, hP, hK⟩ := hv
  have X : cX D Y p s m ([.ref (ad (15 * k)), .int x1, .int x2, .int x3] : List Value).toArray meth c cX3_runawaySection 5 RX3 (some .int) := ⟨⟨B.exec, B.bytes, hml, findClass_of_methodNamed B.named, fun w h => atoms_spec (ws := uX3_runawaySection) B.pre w (List.mem_cons_of_mem _ h)⟩, B.returns, B.notSynchronized, hK⟩
  have hl := lv_entry ([.ref (ad (15 * k)), .int x1, .int x2, .int x3]) (n := 5) (Nat.le_of_ble_eq_true rfl)
  rw [lg_entry_eq]
  generalize (lg_sl ([.ref (ad (15 * k)), .int x1, .int x2, .int x3]) ++ List.replicate (5 - (lg_sl ([.ref (ad (15 * k)), .int x1, .int x2, .int x3])).length) Slot.unset).toArray = ls at hl ⊢
  have hl : lv_has ls 5 [(0, .ref (ad (15 * k))), (1, .int x1), (2, .int x2), (3, .int x3)] := hl
  exact w3_runawaySection_0 X hk rfl hP (lv_sub hl [0, 1, 2, 3] rfl) hf
set_option maxRecDepth 100000 in
set_option maxHeartbeats 4000000 in
theorem k3_runawaySection {p : Program} {l : Launch} {e : Env} {R : Room} {s : State} {m : MethodId} {args : Array Value} {below : List Frame} {meth : Method} {c : Code} {cc : ByteArray} {nL : Nat} {own : String} {ret : Option FieldType} {D : va_G} {Y : cYt} {ad : Nat → Nat} {μ : Nat → Nat → Int32} {H : Heap} {locs : List Loc} {cells slots : Nat} {Q : State → Prop} {pc : Nat} {ls : Array Slot} {rest : List Value} (X : cX D Y p s m args meth c cc nL own ret) {k : Nat} {v0 : Nat → Int32} (hk : k < 10) (hM : μ k = v0) (hP : va_P D vwCl (cwW Y ad μ) H) (hls : ls.size = nL) {index : Nat} (hG : GoodIn gw (wsV own index RX3 yX3_runawaySection uX3_runawaySection)) (hR : rm3_runawaySection.frames + 1 ≤ R.frames ∧ 8 + (5 + 11) + rm3_runawaySection.locals ≤ R.locals) {x1 : Int32} {x2 : Int32} {x3 : Int32} {t : Int32} (hf : f3_runawaySection_0 v0 x1 x2 x3 = some t) (hrest : (rest.map fun v => v.category).sum ≤ 8) (hdg : decode cc pc = .ok (.invokevirtual index, 3)) (hc : cells ≤ R.cells ∧ slots ≤ R.slots) (kk : W p l e R s m args below meth c H locs cells slots Q (F0 m (pc + 3) ls (.int t :: rest))) : W p l e R s m args below meth c H locs cells slots Q (F0 m pc ls (.int x3 :: .int x2 :: .int x1 :: .ref (ad (15 * k)) :: rest)) := by
  subst hM
  exact W.callR (W.runV (As := [.int x1, .int x2, .int x3]) X.1 (c3_runawaySection l hk x1 x2 x3 hf) (cwV 3 X.1.2.2.2.2 hG rfl rfl rfl (by decide +kernel) hR) ⟨cB_bl, va_recv X.2.2.2 hP (ci := 3) (q0 := 15 * k) rfl (cw_ate (by omega) ((cw_st (r := 0) hk (by omega)).trans rfl)), fun U hU hW => ⟨rfl, by rw [hU]; exact hP, va_K.moved hW.alike X.2.2.2⟩⟩ rfl rfl hls rfl (lv_room hrest) hdg hc) kk
/-! OreRailway$State.arrive(LOreRailway$Car;)V -/
def rm3_arrive : Room := { frames := 0, cells := 0, slots := 0, locals := 0 }
def f3_arrive_87 (v0 : Nat → Int32) : Option ((Nat → Int32)) := some (v0)
set_option maxRecDepth 100000 in
set_option maxHeartbeats 4000000 in
theorem w3_arrive_87 {p : Program} {l : Launch} {e : Env} {s : State} {m : MethodId} {args : Array Value} {below : List Frame} {meth : Method} {c : Code} {D : va_G} {Y : cYt} {ad : Nat → Nat} {μ : Nat → Nat → Int32} {k : Nat} {v0 : Nat → Int32} (X : cX D Y p s m args meth c cX3_arrive 3 RX3 none) (hI : cInj ad) (hk : k < 10)  {t : (Nat → Int32)}  {H : Heap} {locs : List Loc} (hH : cH D Y ad (s1 μ k v0) s H locs) {ls : Array Slot} (hl : lv_has ls 3 []) (hf : f3_arrive_87 v0 = some t) : W p l e rm3_arrive s m args below meth c H locs 0 0 (MQ below (va_Qv (fun (_ : Unit) => True) (fun _ t9 => cB D Y ad (s1 μ k t) t9) (cA ad s.heap.size)) args s 0 0 (cA ad s.heap.size)) (F0 m 87 ls []) := by
  obtain ⟨⟨hx, hb, hml, hown, hts⟩, hr, hlk, hK⟩ := id X
  replace hf : (some (v0)) = some t := hf
  obtain rfl := so_i hf
  exact cr_vw X hH rfl dX3_arrive_87
def f3_arrive_82 (jl1 : Nat) (v0 : Nat → Int32) : Option ((Nat → Int32)) := f3_arrive_87 (upd v0 (90 + 9 * jl1 + 2) 0)
set_option maxRecDepth 100000 in
set_option maxHeartbeats 4000000 in
theorem w3_arrive_82 {p : Program} {l : Launch} {e : Env} {s : State} {m : MethodId} {args : Array Value} {below : List Frame} {meth : Method} {c : Code} {D : va_G} {Y : cYt} {ad : Nat → Nat} {μ : Nat → Nat → Int32} {k : Nat} {v0 : Nat → Int32} (X : cX D Y p s m args meth c cX3_arrive 3 RX3 none) (hI : cInj ad) (hk : k < 10)  {jl1 : Nat} {t : (Nat → Int32)}  (hjl1 : jl1 < 8) {H : Heap} {locs : List Loc} (hH : cH D Y ad (s1 μ k v0) s H locs) {ls : Array Slot} (hl : lv_has ls 3 [(1, .ref (ad (15 * k + (jl1 + 7))))]) (hf : f3_arrive_82 jl1 v0 = some t) : W p l e rm3_arrive s m args below meth c H locs 0 0 (MQ below (va_Qv (fun (_ : Unit) => True) (fun _ t9 => cB D Y ad (s1 μ k t) t9) (cA ad s.heap.size)) args s 0 0 (cA ad s.heap.size)) (F0 m 82 ls []) := by
  obtain ⟨⟨hx, hb, hml, hown, hts⟩, hr, hlk, hK⟩ := id X
  replace hf : (f3_arrive_87 (upd v0 (90 + 9 * jl1 + 2) 0)) = some t := hf
  refine lv_aload_n hx hb dX3_arrive_82 rfl (lv_at hl 0 rfl) ?_
  refine lv_iconst (v := 0) hx hb dX3_arrive_83 (by decide) ?_
  refine cv_pCar X hI hk hjl1 hH 2 (by decide) gfX3_84 dX3_arrive_84 (fun H locs hH => ?_)
  exact w3_arrive_87 X hI hk hH (lv_sub hl [] rfl) hf
def f3_arrive_77 (jl1 : Nat) (v0 : Nat → Int32) : Option ((Nat → Int32)) := f3_arrive_82 jl1 (upd v0 (90 + 9 * jl1 + 3) 0)
set_option maxRecDepth 100000 in
set_option maxHeartbeats 4000000 in
theorem w3_arrive_77 {p : Program} {l : Launch} {e : Env} {s : State} {m : MethodId} {args : Array Value} {below : List Frame} {meth : Method} {c : Code} {D : va_G} {Y : cYt} {ad : Nat → Nat} {μ : Nat → Nat → Int32} {k : Nat} {v0 : Nat → Int32} (X : cX D Y p s m args meth c cX3_arrive 3 RX3 none) (hI : cInj ad) (hk : k < 10)  {jl1 : Nat} {t : (Nat → Int32)}  (hjl1 : jl1 < 8) {H : Heap} {locs : List Loc} (hH : cH D Y ad (s1 μ k v0) s H locs) {ls : Array Slot} (hl : lv_has ls 3 [(1, .ref (ad (15 * k + (jl1 + 7))))]) (hf : f3_arrive_77 jl1 v0 = some t) : W p l e rm3_arrive s m args below meth c H locs 0 0 (MQ below (va_Qv (fun (_ : Unit) => True) (fun _ t9 => cB D Y ad (s1 μ k t) t9) (cA ad s.heap.size)) args s 0 0 (cA ad s.heap.size)) (F0 m 77 ls []) := by
  obtain ⟨⟨hx, hb, hml, hown, hts⟩, hr, hlk, hK⟩ := id X
  replace hf : (f3_arrive_82 jl1 (upd v0 (90 + 9 * jl1 + 3) 0)) = some t := hf
  refine lv_aload_n hx hb dX3_arrive_77 rfl (lv_at hl 0 rfl) ?_
  refine lv_iconst (v := 0) hx hb dX3_arrive_78 (by decide) ?_
  refine cv_pCar X hI hk hjl1 hH 3 (by decide) gfX3_135 dX3_arrive_79 (fun H locs hH => ?_)
  exact w3_arrive_82 X hI hk hjl1 hH (lv_sub hl [0] rfl) hf
def f3_arrive_72 (jl1 : Nat) (v0 : Nat → Int32) : Option ((Nat → Int32)) := f3_arrive_77 jl1 (upd v0 (90 + 9 * jl1 + 1) 0)
set_option maxRecDepth 100000 in
set_option maxHeartbeats 4000000 in
theorem w3_arrive_72 {p : Program} {l : Launch} {e : Env} {s : State} {m : MethodId} {args : Array Value} {below : List Frame} {meth : Method} {c : Code} {D : va_G} {Y : cYt} {ad : Nat → Nat} {μ : Nat → Nat → Int32} {k : Nat} {v0 : Nat → Int32} (X : cX D Y p s m args meth c cX3_arrive 3 RX3 none) (hI : cInj ad) (hk : k < 10)  {jl1 : Nat} {t : (Nat → Int32)}  (hjl1 : jl1 < 8) {H : Heap} {locs : List Loc} (hH : cH D Y ad (s1 μ k v0) s H locs) {ls : Array Slot} (hl : lv_has ls 3 [(1, .ref (ad (15 * k + (jl1 + 7))))]) (hf : f3_arrive_72 jl1 v0 = some t) : W p l e rm3_arrive s m args below meth c H locs 0 0 (MQ below (va_Qv (fun (_ : Unit) => True) (fun _ t9 => cB D Y ad (s1 μ k t) t9) (cA ad s.heap.size)) args s 0 0 (cA ad s.heap.size)) (F0 m 72 ls []) := by
  obtain ⟨⟨hx, hb, hml, hown, hts⟩, hr, hlk, hK⟩ := id X
  replace hf : (f3_arrive_77 jl1 (upd v0 (90 + 9 * jl1 + 1) 0)) = some t := hf
  refine lv_aload_n hx hb dX3_arrive_72 rfl (lv_at hl 0 rfl) ?_
  refine lv_iconst (v := 0) hx hb dX3_arrive_73 (by decide) ?_
  refine cv_pCar X hI hk hjl1 hH 1 (by decide) gfX3_73 dX3_arrive_74 (fun H locs hH => ?_)
  exact w3_arrive_77 X hI hk hjl1 hH (lv_sub hl [0] rfl) hf
def f3_arrive_65 (jl1 : Nat) (v0 : Nat → Int32) : Option ((Nat → Int32)) := f3_arrive_72 jl1 (upd v0 (90 + 9 * jl1 + 4) 300)
set_option maxRecDepth 100000 in
set_option maxHeartbeats 4000000 in
theorem w3_arrive_65 {p : Program} {l : Launch} {e : Env} {s : State} {m : MethodId} {args : Array Value} {below : List Frame} {meth : Method} {c : Code} {D : va_G} {Y : cYt} {ad : Nat → Nat} {μ : Nat → Nat → Int32} {k : Nat} {v0 : Nat → Int32} (X : cX D Y p s m args meth c cX3_arrive 3 RX3 none) (hI : cInj ad) (hk : k < 10)  {jl1 : Nat} {t : (Nat → Int32)}  (hjl1 : jl1 < 8) {H : Heap} {locs : List Loc} (hH : cH D Y ad (s1 μ k v0) s H locs) {ls : Array Slot} (hl : lv_has ls 3 [(1, .ref (ad (15 * k + (jl1 + 7))))]) (hf : f3_arrive_65 jl1 v0 = some t) : W p l e rm3_arrive s m args below meth c H locs 0 0 (MQ below (va_Qv (fun (_ : Unit) => True) (fun _ t9 => cB D Y ad (s1 μ k t) t9) (cA ad s.heap.size)) args s 0 0 (cA ad s.heap.size)) (F0 m 65 ls []) := by
  obtain ⟨⟨hx, hb, hml, hown, hts⟩, hr, hlk, hK⟩ := id X
  replace hf : (f3_arrive_72 jl1 (upd v0 (90 + 9 * jl1 + 4) 300)) = some t := hf
  refine lv_aload_n hx hb dX3_arrive_65 rfl (lv_at hl 0 rfl) ?_
  refine lv_sipush (v := 300) hx hb dX3_arrive_66 (by decide) ?_
  refine cv_pCar X hI hk hjl1 hH 4 (by decide) gfX3_120 dX3_arrive_69 (fun H locs hH => ?_)
  exact w3_arrive_72 X hI hk hjl1 hH (lv_sub hl [0] rfl) hf
def f3_arrive_60 (jl1 : Nat) (v0 : Nat → Int32) : Option ((Nat → Int32)) := f3_arrive_65 jl1 (upd v0 (90 + 9 * jl1 + 0) 2)
set_option maxRecDepth 100000 in
set_option maxHeartbeats 4000000 in
theorem w3_arrive_60 {p : Program} {l : Launch} {e : Env} {s : State} {m : MethodId} {args : Array Value} {below : List Frame} {meth : Method} {c : Code} {D : va_G} {Y : cYt} {ad : Nat → Nat} {μ : Nat → Nat → Int32} {k : Nat} {v0 : Nat → Int32} (X : cX D Y p s m args meth c cX3_arrive 3 RX3 none) (hI : cInj ad) (hk : k < 10)  {jl1 : Nat} {t : (Nat → Int32)}  (hjl1 : jl1 < 8) {H : Heap} {locs : List Loc} (hH : cH D Y ad (s1 μ k v0) s H locs) {ls : Array Slot} (hl : lv_has ls 3 [(1, .ref (ad (15 * k + (jl1 + 7))))]) (hf : f3_arrive_60 jl1 v0 = some t) : W p l e rm3_arrive s m args below meth c H locs 0 0 (MQ below (va_Qv (fun (_ : Unit) => True) (fun _ t9 => cB D Y ad (s1 μ k t) t9) (cA ad s.heap.size)) args s 0 0 (cA ad s.heap.size)) (F0 m 60 ls []) := by
  obtain ⟨⟨hx, hb, hml, hown, hts⟩, hr, hlk, hK⟩ := id X
  replace hf : (f3_arrive_65 jl1 (upd v0 (90 + 9 * jl1 + 0) 2)) = some t := hf
  refine lv_aload_n hx hb dX3_arrive_60 rfl (lv_at hl 0 rfl) ?_
  refine lv_iconst (v := 2) hx hb dX3_arrive_61 (by decide) ?_
  refine cv_pCar X hI hk hjl1 hH 0 (by decide) gfX3_67 dX3_arrive_62 (fun H locs hH => ?_)
  exact w3_arrive_65 X hI hk hjl1 hH (lv_sub hl [0] rfl) hf
def f3_arrive_45 (jl1 : Nat) (x2 : Int32) (v0 : Nat → Int32) : Option ((Nat → Int32)) := f3_arrive_60 jl1 (upd v0 (90 + 9 * jl1 + 6) ((v0 (90 + 9 * jl1 + 6)) + ((v0 (90 + 9 * jl1 + 1)) - x2)))
set_option maxRecDepth 100000 in
set_option maxHeartbeats 4000000 in
theorem w3_arrive_45 {p : Program} {l : Launch} {e : Env} {s : State} {m : MethodId} {args : Array Value} {below : List Frame} {meth : Method} {c : Code} {D : va_G} {Y : cYt} {ad : Nat → Nat} {μ : Nat → Nat → Int32} {k : Nat} {v0 : Nat → Int32} (X : cX D Y p s m args meth c cX3_arrive 3 RX3 none) (hI : cInj ad) (hk : k < 10)  {jl1 : Nat} {x2 : Int32} {t : (Nat → Int32)}  (hjl1 : jl1 < 8) {H : Heap} {locs : List Loc} (hH : cH D Y ad (s1 μ k v0) s H locs) {ls : Array Slot} (hl : lv_has ls 3 [(1, .ref (ad (15 * k + (jl1 + 7)))), (2, .int x2)]) (hf : f3_arrive_45 jl1 x2 v0 = some t) : W p l e rm3_arrive s m args below meth c H locs 0 0 (MQ below (va_Qv (fun (_ : Unit) => True) (fun _ t9 => cB D Y ad (s1 μ k t) t9) (cA ad s.heap.size)) args s 0 0 (cA ad s.heap.size)) (F0 m 45 ls []) := by
  obtain ⟨⟨hx, hb, hml, hown, hts⟩, hr, hlk, hK⟩ := id X
  replace hf : (f3_arrive_60 jl1 (upd v0 (90 + 9 * jl1 + 6) ((v0 (90 + 9 * jl1 + 6)) + ((v0 (90 + 9 * jl1 + 1)) - x2)))) = some t := hf
  refine lv_aload_n hx hb dX3_arrive_45 rfl (lv_at hl 0 rfl) ?_
  refine lv_dup hx hb dX3_arrive_46 rfl ?_
  refine cr_gCar X hk s1_k (j := jl1) hjl1 hH.1 (i := 6) (v := .int (v0 (90 + 9 * jl1 + 6))) (by decide) gfX3_160 rfl dX3_arrive_47 ?_
  refine lv_aload_n hx hb dX3_arrive_50 rfl (lv_at hl 0 rfl) ?_
  refine cr_gCar X hk s1_k (j := jl1) hjl1 hH.1 (i := 1) (v := .int (v0 (90 + 9 * jl1 + 1))) (by decide) gfX3_73 rfl dX3_arrive_51 ?_
  refine lv_iload_n hx hb dX3_arrive_54 rfl (lv_at hl 1 rfl) ?_
  refine lv_isub hx hb dX3_arrive_55 ?_
  refine lv_iadd hx hb dX3_arrive_56 ?_
  refine cv_pCar X hI hk hjl1 hH 6 (by decide) gfX3_160 dX3_arrive_57 (fun H locs hH => ?_)
  exact w3_arrive_60 X hI hk hjl1 hH (lv_sub hl [0] rfl) hf
def f3_arrive_19 (jl1 : Nat) (y0 : Int32) (v0 : Nat → Int32) : Option ((Nat → Int32)) := f3_arrive_45 jl1 y0 (upd (upd v0 166 ((v0 166) + y0)) 165 (((upd v0 166 ((v0 166) + y0)) 165) + (((upd v0 166 ((v0 166) + y0)) (90 + 9 * jl1 + 1)) - y0)))
set_option maxRecDepth 100000 in
set_option maxHeartbeats 4000000 in
theorem w3_arrive_19 {p : Program} {l : Launch} {e : Env} {s : State} {m : MethodId} {args : Array Value} {below : List Frame} {meth : Method} {c : Code} {D : va_G} {Y : cYt} {ad : Nat → Nat} {μ : Nat → Nat → Int32} {k : Nat} {v0 : Nat → Int32} (X : cX D Y p s m args meth c cX3_arrive 3 RX3 none) (hI : cInj ad) (hk : k < 10)  {jl1 : Nat} {y0 : Int32} {t : (Nat → Int32)}  (hjl1 : jl1 < 8) {H : Heap} {locs : List Loc} (hH : cH D Y ad (s1 μ k v0) s H locs) {ls : Array Slot} (hl : lv_has ls 3 [(0, .ref (ad (15 * k))), (1, .ref (ad (15 * k + (jl1 + 7))))]) (hf : f3_arrive_19 jl1 y0 v0 = some t) : W p l e rm3_arrive s m args below meth c H locs 0 0 (MQ below (va_Qv (fun (_ : Unit) => True) (fun _ t9 => cB D Y ad (s1 μ k t) t9) (cA ad s.heap.size)) args s 0 0 (cA ad s.heap.size)) (F0 m 19 ls [.int y0]) := by
  obtain ⟨⟨hx, hb, hml, hown, hts⟩, hr, hlk, hK⟩ := id X
  replace hf : (f3_arrive_45 jl1 y0 (upd (upd v0 166 ((v0 166) + y0)) 165 (((upd v0 166 ((v0 166) + y0)) 165) + (((upd v0 166 ((v0 166) + y0)) (90 + 9 * jl1 + 1)) - y0)))) = some t := hf
  refine lv_istore_n (lv' := [(2, .int y0), (0, .ref (ad (15 * k))), (1, .ref (ad (15 * k + (jl1 + 7))))]) hx hb dX3_arrive_19 rfl hl (by decide) rfl (fun ls hl => ?_)
  refine lv_aload_n hx hb dX3_arrive_20 rfl (lv_at hl 1 rfl) ?_
  refine lv_dup hx hb dX3_arrive_21 rfl ?_
  refine cr_gSt X hk s1_k hH.1 (i := 10) (v := .int (v0 166)) (by decide) gfX3_57 rfl dX3_arrive_22 ?_
  refine lv_iload_n hx hb dX3_arrive_25 rfl (lv_at hl 0 rfl) ?_
  refine lv_iadd hx hb dX3_arrive_26 ?_
  refine cv_pSt X hI hk hH 10 (by decide) gfX3_57 dX3_arrive_27 (fun H locs hH => ?_)
  refine lv_aload_n hx hb dX3_arrive_30 rfl (lv_at hl 1 rfl) ?_
  refine lv_dup hx hb dX3_arrive_31 rfl ?_
  refine cr_gSt X hk s1_k hH.1 (i := 9) (v := .int ((upd v0 166 ((v0 166) + y0)) 165)) (by decide) gfX3_54 rfl dX3_arrive_32 ?_
  refine lv_aload_n hx hb dX3_arrive_35 rfl (lv_at hl 2 rfl) ?_
  refine cr_gCar X hk s1_k (j := jl1) hjl1 hH.1 (i := 1) (v := .int ((upd v0 166 ((v0 166) + y0)) (90 + 9 * jl1 + 1))) (by decide) gfX3_73 rfl dX3_arrive_36 ?_
  refine lv_iload_n hx hb dX3_arrive_39 rfl (lv_at hl 0 rfl) ?_
  refine lv_isub hx hb dX3_arrive_40 ?_
  refine lv_iadd hx hb dX3_arrive_41 ?_
  refine cv_pSt X hI hk hH 9 (by decide) gfX3_54 dX3_arrive_42 (fun H locs hH => ?_)
  exact w3_arrive_45 X hI hk hjl1 hH (lv_sub hl [2, 0] rfl) hf
def f3_arrive_0 (jl1 : Nat) (v0 : Nat → Int32) : Option ((Nat → Int32)) := if (v0 (90 + 9 * jl1 + 3)) ≤ 25 then (f3_arrive_19 jl1 0 v0) else (f3_arrive_19 jl1 ((v0 (90 + 9 * jl1 + 1)) / 2) v0)
set_option maxRecDepth 100000 in
set_option maxHeartbeats 4000000 in
theorem w3_arrive_0 {p : Program} {l : Launch} {e : Env} {s : State} {m : MethodId} {args : Array Value} {below : List Frame} {meth : Method} {c : Code} {D : va_G} {Y : cYt} {ad : Nat → Nat} {μ : Nat → Nat → Int32} {k : Nat} {v0 : Nat → Int32} (X : cX D Y p s m args meth c cX3_arrive 3 RX3 none) (hI : cInj ad) (hk : k < 10)  {jl1 : Nat} {t : (Nat → Int32)}  (hjl1 : jl1 < 8) {H : Heap} {locs : List Loc} (hH : cH D Y ad (s1 μ k v0) s H locs) {ls : Array Slot} (hl : lv_has ls 3 [(0, .ref (ad (15 * k))), (1, .ref (ad (15 * k + (jl1 + 7))))]) (hf : f3_arrive_0 jl1 v0 = some t) : W p l e rm3_arrive s m args below meth c H locs 0 0 (MQ below (va_Qv (fun (_ : Unit) => True) (fun _ t9 => cB D Y ad (s1 μ k t) t9) (cA ad s.heap.size)) args s 0 0 (cA ad s.heap.size)) (F0 m 0 ls []) := by
  obtain ⟨⟨hx, hb, hml, hown, hts⟩, hr, hlk, hK⟩ := id X
  replace hf : (if (v0 (90 + 9 * jl1 + 3)) ≤ 25 then (f3_arrive_19 jl1 0 v0) else (f3_arrive_19 jl1 ((v0 (90 + 9 * jl1 + 1)) / 2) v0)) = some t := hf
  refine lv_aload_n hx hb dX3_arrive_0 rfl (lv_at hl 1 rfl) ?_
  refine cr_gCar X hk s1_k (j := jl1) hjl1 hH.1 (i := 3) (v := .int (v0 (90 + 9 * jl1 + 3))) (by decide) gfX3_135 rfl dX3_arrive_1 ?_
  refine lv_bipush (v := 25) hx hb dX3_arrive_4 (by decide) ?_
  refine lv_icmp_le (tgt := 18) hx hb dX3_arrive_6 (by decide) (fun c1 => ?_) (fun c1 => ?_)
  · have hf := it_t c1 hf
    refine lv_iconst (v := 0) hx hb dX3_arrive_18 (by decide) ?_
    exact w3_arrive_19 X hI hk hjl1 hH (lv_sub hl [0, 1] rfl) hf
  · have hf := it_f c1 hf
    refine lv_aload_n hx hb dX3_arrive_9 rfl (lv_at hl 1 rfl) ?_
    refine cr_gCar X hk s1_k (j := jl1) hjl1 hH.1 (i := 1) (v := .int (v0 (90 + 9 * jl1 + 1))) (by decide) gfX3_73 rfl dX3_arrive_10 ?_
    refine lv_iconst (v := 2) hx hb dX3_arrive_13 (by decide) ?_
    refine lv_idiv hx hb dX3_arrive_14 (by decide) ?_
    refine lv_goto (tgt := 19) hx hb dX3_arrive_15 (by decide) ?_
    exact w3_arrive_19 X hI hk hjl1 hH (lv_sub hl [0, 1] rfl) hf
set_option maxRecDepth 100000 in
set_option maxHeartbeats 4000000 in
theorem c3_arrive (l : Launch) {D : va_G} {Y : cYt} {ad : Nat → Nat} {μ : Nat → Nat → Int32} {k : Nat} {ja1 : Nat} (hk : k < 10) (hja1 : ja1 < 8) (hI : cInj ad) (sz : Nat) {t : (Nat → Int32)} (hf : f3_arrive_0 ja1 (μ k) = some t) : Met l yX3_arrive uX3_arrive rm3_arrive (va_Pc [.ref (ad (15 * k)), .ref (ad (15 * k + (ja1 + 7)))] (fun U => U.heap.size = sz ∧ cB D Y ad μ U)) (va_Qv (fun (_ : Unit) => True) (fun _ t9 => cB D Y ad (s1 μ k t) t9) (cA ad sz)) 0 0 (cA ad sz) := by
  refine Met.ofW (cc := cX3_arrive) (maxL := 3) (ret := none) (by decide) rfl ?_
  intro p e s m args below meth c s₁ B hml hv
  obtain ⟨rfl, hsz, hP, hK⟩ := hv
  subst hsz
  have X : cX D Y p s m ([.ref (ad (15 * k)), .ref (ad (15 * k + (ja1 + 7)))] : List Value).toArray meth c cX3_arrive 3 RX3 none := ⟨⟨B.exec, B.bytes, hml, findClass_of_methodNamed B.named, fun w h => atoms_spec (ws := uX3_arrive) B.pre w (List.mem_cons_of_mem _ h)⟩, B.returns, B.notSynchronized, hK⟩
  have hl := lv_entry ([.ref (ad (15 * k)), .ref (ad (15 * k + (ja1 + 7)))]) (n := 3) (Nat.le_of_ble_eq_true rfl)
  rw [lg_entry_eq]
  generalize (lg_sl ([.ref (ad (15 * k)), .ref (ad (15 * k + (ja1 + 7)))]) ++ List.replicate (3 - (lg_sl ([.ref (ad (15 * k)), .ref (ad (15 * k + (ja1 + 7)))])).length) Slot.unset).toArray = ls at hl ⊢
  have hl : lv_has ls 3 [(0, .ref (ad (15 * k))), (1, .ref (ad (15 * k + (ja1 + 7))))] := hl
  exact w3_arrive_0 X hI hk hja1 (cH_in k ⟨hP, va_S.rf⟩) (lv_sub hl [0, 1] rfl) hf
set_option maxRecDepth 100000 in
set_option maxHeartbeats 4000000 in
theorem km3_arrive {p : Program} {l : Launch} {e : Env} {R : Room} {s : State} {m : MethodId} {args : Array Value} {below : List Frame} {meth : Method} {c : Code} {cc : ByteArray} {nL : Nat} {own : String} {ret : Option FieldType} {D : va_G} {Y : cYt} {ad : Nat → Nat} {μ : Nat → Nat → Int32} {H : Heap} {locs : List Loc} {cells slots : Nat} {Q : State → Prop} {pc : Nat} {ls : Array Slot} {rest : List Value} (X : cX D Y p s m args meth c cc nL own ret) {k : Nat} {ja1 : Nat} (hI : cInj ad) (hk : k < 10) (hja1 : ja1 < 8) (hH : cH D Y ad μ s H locs) (hls : ls.size = nL) {index : Nat} (hG : GoodIn gw (wsV own index RX3 yX3_arrive uX3_arrive)) (hR : rm3_arrive.frames + 1 ≤ R.frames ∧ 8 + (3 + 11) + rm3_arrive.locals ≤ R.locals) {t : (Nat → Int32)} (hf : f3_arrive_0 ja1 (μ k) = some t) (hrest : (rest.map fun v => v.category).sum ≤ 8) (hdg : decode cc pc = .ok (.invokevirtual index, 3)) (hc : cells ≤ R.cells ∧ slots ≤ R.slots) (kk : ∀ (H1 : Heap) (locs1 : List Loc), cH D Y ad (s1 μ k t) s H1 locs1 → W p l e R s m args below meth c H1 locs1 cells slots Q (F0 m (pc + 3) ls (rest))) : W p l e R s m args below meth c H locs cells slots Q (F0 m pc ls (.ref (ad (15 * k + (ja1 + 7))) :: .ref (ad (15 * k)) :: rest)) := by
  have hA : ∀ q, cA ad H.size q → cA ad s.heap.size q := fun q h => h.elim Or.inl (fun h => Or.inr (Nat.le_trans hH.2.1 h))
  refine va_callv (va_runV (As := [.ref (ad (15 * k + (ja1 + 7)))]) (rest := rest) X.1 (c3_arrive l hk hja1 hI H.size hf) (cwV 1 X.1.2.2.2.2 hG rfl rfl rfl (by decide +kernel) hR) ⟨cBs_bl, va_recv X.2.2.2 hH.1 (ci := 3) (q0 := 15 * k) rfl (cw_ate (by omega) ((cw_st (r := 0) hk (by omega)).trans rfl)), fun U hU hW => ⟨rfl, by rw [hU], by rw [hU]; exact hH.1, va_K.moved hW.alike X.2.2.2⟩⟩ rfl rfl hls rfl (lv_room hrest) hdg hc) hH.2 (fun q _ h => hA q h) hA (fun u t9 H1 locs1 ht hvm hw hB hz1 hk1 hS => ?_)
  exact kk H1 locs1 ⟨by rw [← ht]; exact hB.1, hS⟩
set_option maxRecDepth 100000 in
set_option maxHeartbeats 4000000 in
theorem k3_arrive {p : Program} {l : Launch} {e : Env} {R : Room} {s : State} {m : MethodId} {args : Array Value} {below : List Frame} {meth : Method} {c : Code} {cc : ByteArray} {nL : Nat} {own : String} {ret : Option FieldType} {D : va_G} {Y : cYt} {ad : Nat → Nat} {μ : Nat → Nat → Int32} {H : Heap} {locs : List Loc} {cells slots : Nat} {Q : State → Prop} {pc : Nat} {ls : Array Slot} {rest : List Value} (X : cX D Y p s m args meth c cc nL own ret) {k : Nat} {v0 : Nat → Int32} {ja1 : Nat} (hI : cInj ad) (hk : k < 10) (hja1 : ja1 < 8) (hH : cH D Y ad (s1 μ k v0) s H locs) (hls : ls.size = nL) {index : Nat} (hG : GoodIn gw (wsV own index RX3 yX3_arrive uX3_arrive)) (hR : rm3_arrive.frames + 1 ≤ R.frames ∧ 8 + (3 + 11) + rm3_arrive.locals ≤ R.locals) {t : (Nat → Int32)} (hf : f3_arrive_0 ja1 v0 = some t) (hrest : (rest.map fun v => v.category).sum ≤ 8) (hdg : decode cc pc = .ok (.invokevirtual index, 3)) (hc : cells ≤ R.cells ∧ slots ≤ R.slots) (kk : ∀ (H1 : Heap) (locs1 : List Loc), cH D Y ad (s1 μ k t) s H1 locs1 → W p l e R s m args below meth c H1 locs1 cells slots Q (F0 m (pc + 3) ls (rest))) : W p l e R s m args below meth c H locs cells slots Q (F0 m pc ls (.ref (ad (15 * k + (ja1 + 7))) :: .ref (ad (15 * k)) :: rest)) := by
  have hf2 : f3_arrive_0 ja1 (s1 μ k v0 k) = some t := by rw [s1_k]; exact hf
  exact km3_arrive (μ := s1 μ k v0) X hI hk hja1 hH hls hG hR hf2 hrest hdg hc (fun H1 locs1 h => kk H1 locs1 (by rw [s1_s1] at h; exact h))
/-! OreRailway$State.moveCar(I)V -/
def rm3_moveCar : Room := { frames := 2, cells := 0, slots := 0, locals := 46 }
def f3_moveCar_157 (v0 : Nat → Int32) : Option ((Nat → Int32)) := some (v0)
set_option maxRecDepth 100000 in
set_option maxHeartbeats 4000000 in
theorem w3_moveCar_157 {p : Program} {l : Launch} {e : Env} {s : State} {m : MethodId} {args : Array Value} {below : List Frame} {meth : Method} {c : Code} {D : va_G} {Y : cYt} {ad : Nat → Nat} {μ : Nat → Nat → Int32} {k : Nat} {v0 : Nat → Int32} (X : cX D Y p s m args meth c cX3_moveCar 6 RX3 none) (hI : cInj ad) (hk : k < 10)  {t : (Nat → Int32)}  {H : Heap} {locs : List Loc} (hH : cH D Y ad (s1 μ k v0) s H locs) {ls : Array Slot} (hl : lv_has ls 6 []) (hf : f3_moveCar_157 v0 = some t) : W p l e rm3_moveCar s m args below meth c H locs 0 0 (MQ below (va_Qv (fun (_ : Unit) => True) (fun _ t9 => cB D Y ad (s1 μ k t) t9) (cA ad s.heap.size)) args s 0 0 (cA ad s.heap.size)) (F0 m 157 ls []) := by
  obtain ⟨⟨hx, hb, hml, hown, hts⟩, hr, hlk, hK⟩ := id X
  replace hf : (some (v0)) = some t := hf
  obtain rfl := so_i hf
  exact cr_vw X hH rfl dX3_moveCar_157
def f3_moveCar_139 (v0 : Nat → Int32) : Option ((Nat → Int32)) := f3_moveCar_157 v0
set_option maxRecDepth 100000 in
set_option maxHeartbeats 4000000 in
theorem w3_moveCar_139 {p : Program} {l : Launch} {e : Env} {s : State} {m : MethodId} {args : Array Value} {below : List Frame} {meth : Method} {c : Code} {D : va_G} {Y : cYt} {ad : Nat → Nat} {μ : Nat → Nat → Int32} {k : Nat} {v0 : Nat → Int32} (X : cX D Y p s m args meth c cX3_moveCar 6 RX3 none) (hI : cInj ad) (hk : k < 10)  {t : (Nat → Int32)}  {H : Heap} {locs : List Loc} (hH : cH D Y ad (s1 μ k v0) s H locs) {ls : Array Slot} (hl : lv_has ls 6 []) (hf : f3_moveCar_139 v0 = some t) : W p l e rm3_moveCar s m args below meth c H locs 0 0 (MQ below (va_Qv (fun (_ : Unit) => True) (fun _ t9 => cB D Y ad (s1 μ k t) t9) (cA ad s.heap.size)) args s 0 0 (cA ad s.heap.size)) (F0 m 139 ls []) := by
  obtain ⟨⟨hx, hb, hml, hown, hts⟩, hr, hlk, hK⟩ := id X
  replace hf : (f3_moveCar_157 v0) = some t := hf
  refine lv_goto (tgt := 157) hx hb dX3_moveCar_139 (by decide) ?_
  exact w3_moveCar_157 X hI hk hH (lv_sub hl [] rfl) hf
def f3_moveCar_134 (jl2 : Nat) (v0 : Nat → Int32) : Option ((Nat → Int32)) := f3_moveCar_139 (upd v0 (90 + 9 * jl2 + 3) 0)
set_option maxRecDepth 100000 in
set_option maxHeartbeats 4000000 in
theorem w3_moveCar_134 {p : Program} {l : Launch} {e : Env} {s : State} {m : MethodId} {args : Array Value} {below : List Frame} {meth : Method} {c : Code} {D : va_G} {Y : cYt} {ad : Nat → Nat} {μ : Nat → Nat → Int32} {k : Nat} {v0 : Nat → Int32} (X : cX D Y p s m args meth c cX3_moveCar 6 RX3 none) (hI : cInj ad) (hk : k < 10)  {jl2 : Nat} {t : (Nat → Int32)}  (hjl2 : jl2 < 8) {H : Heap} {locs : List Loc} (hH : cH D Y ad (s1 μ k v0) s H locs) {ls : Array Slot} (hl : lv_has ls 6 [(2, .ref (ad (15 * k + (jl2 + 7))))]) (hf : f3_moveCar_134 jl2 v0 = some t) : W p l e rm3_moveCar s m args below meth c H locs 0 0 (MQ below (va_Qv (fun (_ : Unit) => True) (fun _ t9 => cB D Y ad (s1 μ k t) t9) (cA ad s.heap.size)) args s 0 0 (cA ad s.heap.size)) (F0 m 134 ls []) := by
  obtain ⟨⟨hx, hb, hml, hown, hts⟩, hr, hlk, hK⟩ := id X
  replace hf : (f3_moveCar_139 (upd v0 (90 + 9 * jl2 + 3) 0)) = some t := hf
  refine lv_aload_n hx hb dX3_moveCar_134 rfl (lv_at hl 0 rfl) ?_
  refine lv_iconst (v := 0) hx hb dX3_moveCar_135 (by decide) ?_
  refine cv_pCar X hI hk hjl2 hH 3 (by decide) gfX3_135 dX3_moveCar_136 (fun H locs hH => ?_)
  exact w3_moveCar_139 X hI hk hH (lv_sub hl [] rfl) hf
def f3_moveCar_88 (jl2 : Nat) (x3 : Int32) (v0 : Nat → Int32) : Option ((Nat → Int32)) := Option.bind (f3_runawaySection_0 v0 x3 (v0 (90 + 9 * jl2 + 4)) (v0 (90 + 9 * jl2 + 3))) (fun t1 => if t1 = ((-1)) then (if (v0 (90 + 9 * jl2 + 4)) < 300 then (f3_moveCar_157 v0) else (Option.bind (f3_arrive_0 jl2 v0) (fun t4 => f3_moveCar_157 t4))) else (gd t1 30 (gd t1 30 (f3_moveCar_134 jl2 (upd (upd (upd v0 (60 + Int32.toNatClampNeg t1) ((v0 (60 + Int32.toNatClampNeg t1)) + 1)) (90 + 9 * jl2 + 0) 3) (90 + 9 * jl2 + 4) (t1 * 10))))))
set_option maxRecDepth 100000 in
set_option maxHeartbeats 4000000 in
theorem w3_moveCar_88 {p : Program} {l : Launch} {e : Env} {s : State} {m : MethodId} {args : Array Value} {below : List Frame} {meth : Method} {c : Code} {D : va_G} {Y : cYt} {ad : Nat → Nat} {μ : Nat → Nat → Int32} {k : Nat} {v0 : Nat → Int32} (X : cX D Y p s m args meth c cX3_moveCar 6 RX3 none) (hI : cInj ad) (hk : k < 10)  {jl2 : Nat} {x3 : Int32} {t : (Nat → Int32)}  (hjl2 : jl2 < 8) {H : Heap} {locs : List Loc} (hH : cH D Y ad (s1 μ k v0) s H locs) {ls : Array Slot} (hl : lv_has ls 6 [(0, .ref (ad (15 * k))), (2, .ref (ad (15 * k + (jl2 + 7)))), (3, .int x3)]) (hf : f3_moveCar_88 jl2 x3 v0 = some t) : W p l e rm3_moveCar s m args below meth c H locs 0 0 (MQ below (va_Qv (fun (_ : Unit) => True) (fun _ t9 => cB D Y ad (s1 μ k t) t9) (cA ad s.heap.size)) args s 0 0 (cA ad s.heap.size)) (F0 m 88 ls []) := by
  obtain ⟨⟨hx, hb, hml, hown, hts⟩, hr, hlk, hK⟩ := id X
  replace hf : (Option.bind (f3_runawaySection_0 v0 x3 (v0 (90 + 9 * jl2 + 4)) (v0 (90 + 9 * jl2 + 3))) (fun t1 => if t1 = ((-1)) then (if (v0 (90 + 9 * jl2 + 4)) < 300 then (f3_moveCar_157 v0) else (Option.bind (f3_arrive_0 jl2 v0) (fun t4 => f3_moveCar_157 t4))) else (gd t1 30 (gd t1 30 (f3_moveCar_134 jl2 (upd (upd (upd v0 (60 + Int32.toNatClampNeg t1) ((v0 (60 + Int32.toNatClampNeg t1)) + 1)) (90 + 9 * jl2 + 0) 3) (90 + 9 * jl2 + 4) (t1 * 10))))))) = some t := hf
  refine lv_aload_n hx hb dX3_moveCar_88 rfl (lv_at hl 0 rfl) ?_
  refine lv_iload_n hx hb dX3_moveCar_89 rfl (lv_at hl 2 rfl) ?_
  refine lv_aload_n hx hb dX3_moveCar_90 rfl (lv_at hl 1 rfl) ?_
  refine cr_gCar X hk s1_k (j := jl2) hjl2 hH.1 (i := 4) (v := .int (v0 (90 + 9 * jl2 + 4))) (by decide) gfX3_120 rfl dX3_moveCar_91 ?_
  refine lv_aload_n hx hb dX3_moveCar_94 rfl (lv_at hl 1 rfl) ?_
  refine cr_gCar X hk s1_k (j := jl2) hjl2 hH.1 (i := 3) (v := .int (v0 (90 + 9 * jl2 + 3))) (by decide) gfX3_135 rfl dX3_moveCar_95 ?_
  obtain ⟨t1, ht1, hf⟩ := bd_o hf
  refine k3_runawaySection X hk s1_k hH.1 hl.1 qX3_142 ⟨Nat.le_of_ble_eq_true rfl, Nat.le_of_ble_eq_true rfl⟩ ht1 (Nat.le_of_ble_eq_true rfl) dX3_moveCar_98 ⟨Nat.zero_le _, Nat.zero_le _⟩ ?_
  refine lv_istore (lv' := [(5, .int t1), (0, .ref (ad (15 * k))), (2, .ref (ad (15 * k + (jl2 + 7)))), (3, .int x3)]) hx hb dX3_moveCar_101 hl (by decide) rfl (fun ls hl => ?_)
  refine lv_iload hx hb dX3_moveCar_103 (lv_at hl 0 rfl) ?_
  refine lv_iconst (v := (-1)) hx hb dX3_moveCar_105 (by decide) ?_
  refine lv_icmp_eq (tgt := 142) hx hb dX3_moveCar_106 (by decide) (fun c2 => ?_) (fun c2 => ?_)
  · have hf := it_t c2 hf
    refine lv_aload_n hx hb dX3_moveCar_142 rfl (lv_at hl 2 rfl) ?_
    refine cr_gCar X hk s1_k (j := jl2) hjl2 hH.1 (i := 4) (v := .int (v0 (90 + 9 * jl2 + 4))) (by decide) gfX3_120 rfl dX3_moveCar_143 ?_
    refine lv_sipush (v := 300) hx hb dX3_moveCar_146 (by decide) ?_
    refine lv_icmp_lt (tgt := 157) hx hb dX3_moveCar_149 (by decide) (fun c3 => ?_) (fun c3 => ?_)
    · have hf := it_t c3 hf
      exact w3_moveCar_157 X hI hk hH (lv_sub hl [] rfl) hf
    · have hf := it_f c3 hf
      refine lv_aload_n hx hb dX3_moveCar_152 rfl (lv_at hl 1 rfl) ?_
      refine lv_aload_n hx hb dX3_moveCar_153 rfl (lv_at hl 2 rfl) ?_
      obtain ⟨t4, ht4, hf⟩ := bd_o hf
      refine k3_arrive X hI hk hjl2 hH hl.1 qX3_146 ⟨Nat.le_of_ble_eq_true rfl, Nat.le_of_ble_eq_true rfl⟩ ht4 (Nat.le_of_ble_eq_true rfl) dX3_moveCar_154 ⟨Nat.zero_le _, Nat.zero_le _⟩ (fun H locs hH => ?_)
      exact w3_moveCar_157 X hI hk hH (lv_sub hl [] rfl) hf
  · have hf := it_f c2 hf
    refine lv_aload_n hx hb dX3_moveCar_109 rfl (lv_at hl 1 rfl) ?_
    refine cr_gSt X hk s1_k hH.1 (i := 2) (v := .ref (ad (15 * k + 3))) (by decide) gfX3_18 rfl dX3_moveCar_110 ?_
    refine lv_iload hx hb dX3_moveCar_113 (lv_at hl 0 rfl) ?_
    refine lv_dup2_11 hx hb dX3_moveCar_115 rfl rfl ?_
    obtain ⟨hi5, hf⟩ := gd_o hf
    refine cr_ld3 X hk s1_k hH.1 hi5 dX3_moveCar_116 ?_
    refine lv_iconst (v := 1) hx hb dX3_moveCar_117 (by decide) ?_
    refine lv_iadd hx hb dX3_moveCar_118 ?_
    obtain ⟨hi6, hf⟩ := gd_o hf
    refine cv_st3 X hI hk hH hi6 dX3_moveCar_119 (fun H locs hH => ?_)
    refine lv_aload_n hx hb dX3_moveCar_120 rfl (lv_at hl 2 rfl) ?_
    refine lv_iconst (v := 3) hx hb dX3_moveCar_121 (by decide) ?_
    refine cv_pCar X hI hk hjl2 hH 0 (by decide) gfX3_67 dX3_moveCar_122 (fun H locs hH => ?_)
    refine lv_aload_n hx hb dX3_moveCar_125 rfl (lv_at hl 2 rfl) ?_
    refine lv_iload hx hb dX3_moveCar_126 (lv_at hl 0 rfl) ?_
    refine lv_bipush (v := 10) hx hb dX3_moveCar_128 (by decide) ?_
    refine lv_imul hx hb dX3_moveCar_130 ?_
    refine cv_pCar X hI hk hjl2 hH 4 (by decide) gfX3_120 dX3_moveCar_131 (fun H locs hH => ?_)
    exact w3_moveCar_134 X hI hk hjl2 hH (lv_sub hl [2] rfl) hf
def f3_moveCar_49 (jl2 : Nat) (x3 : Int32) (x4 : Int32) (v0 : Nat → Int32) : Option ((Nat → Int32)) := if x4 = ((-1)) then (f3_moveCar_88 jl2 x3 v0) else (gd x4 8 (if (v0 (90 + 9 * jl2 + 4)) ≤ ((v0 (90 + 9 * ((Int32.toNatClampNeg x4)) + 4)) - 10) then (f3_moveCar_88 jl2 x3 v0) else (gd x4 8 (Option.bind (f3_bump_0 jl2 x3 ((Int32.toNatClampNeg x4)) v0) (fun t5 => f3_moveCar_88 jl2 x3 t5)))))
set_option maxRecDepth 100000 in
set_option maxHeartbeats 4000000 in
theorem w3_moveCar_49 {p : Program} {l : Launch} {e : Env} {s : State} {m : MethodId} {args : Array Value} {below : List Frame} {meth : Method} {c : Code} {D : va_G} {Y : cYt} {ad : Nat → Nat} {μ : Nat → Nat → Int32} {k : Nat} {v0 : Nat → Int32} (X : cX D Y p s m args meth c cX3_moveCar 6 RX3 none) (hI : cInj ad) (hk : k < 10)  {jl2 : Nat} {x3 : Int32} {x4 : Int32} {t : (Nat → Int32)}  (hjl2 : jl2 < 8) {H : Heap} {locs : List Loc} (hH : cH D Y ad (s1 μ k v0) s H locs) {ls : Array Slot} (hl : lv_has ls 6 [(0, .ref (ad (15 * k))), (2, .ref (ad (15 * k + (jl2 + 7)))), (3, .int x3), (4, .int x4)]) (hf : f3_moveCar_49 jl2 x3 x4 v0 = some t) : W p l e rm3_moveCar s m args below meth c H locs 0 0 (MQ below (va_Qv (fun (_ : Unit) => True) (fun _ t9 => cB D Y ad (s1 μ k t) t9) (cA ad s.heap.size)) args s 0 0 (cA ad s.heap.size)) (F0 m 49 ls []) := by
  obtain ⟨⟨hx, hb, hml, hown, hts⟩, hr, hlk, hK⟩ := id X
  replace hf : (if x4 = ((-1)) then (f3_moveCar_88 jl2 x3 v0) else (gd x4 8 (if (v0 (90 + 9 * jl2 + 4)) ≤ ((v0 (90 + 9 * ((Int32.toNatClampNeg x4)) + 4)) - 10) then (f3_moveCar_88 jl2 x3 v0) else (gd x4 8 (Option.bind (f3_bump_0 jl2 x3 ((Int32.toNatClampNeg x4)) v0) (fun t5 => f3_moveCar_88 jl2 x3 t5)))))) = some t := hf
  refine lv_iload hx hb dX3_moveCar_49 (lv_at hl 3 rfl) ?_
  refine lv_iconst (v := (-1)) hx hb dX3_moveCar_51 (by decide) ?_
  refine lv_icmp_eq (tgt := 88) hx hb dX3_moveCar_52 (by decide) (fun c1 => ?_) (fun c1 => ?_)
  · have hf := it_t c1 hf
    exact w3_moveCar_88 X hI hk hjl2 hH (lv_sub hl [0, 1, 2] rfl) hf
  · have hf := it_f c1 hf
    refine lv_aload_n hx hb dX3_moveCar_55 rfl (lv_at hl 1 rfl) ?_
    refine cr_gCar X hk s1_k (j := jl2) hjl2 hH.1 (i := 4) (v := .int (v0 (90 + 9 * jl2 + 4))) (by decide) gfX3_120 rfl dX3_moveCar_56 ?_
    refine lv_aload_n hx hb dX3_moveCar_59 rfl (lv_at hl 0 rfl) ?_
    refine cr_gSt X hk s1_k hH.1 (i := 4) (v := .ref (ad (15 * k + 5))) (by decide) gfX3_26 rfl dX3_moveCar_60 ?_
    refine lv_iload hx hb dX3_moveCar_63 (lv_at hl 3 rfl) ?_
    obtain ⟨hi2, hf⟩ := gd_o hf
    refine cr_cars X hk hH.1 hi2 dX3_moveCar_65 ?_
    refine cr_gCar X hk s1_k (j := (Int32.toNatClampNeg x4)) (vin_lt hi2) hH.1 (i := 4) (v := .int (v0 (90 + 9 * ((Int32.toNatClampNeg x4)) + 4))) (by decide) gfX3_120 rfl dX3_moveCar_66 ?_
    refine lv_bipush (v := 10) hx hb dX3_moveCar_69 (by decide) ?_
    refine lv_isub hx hb dX3_moveCar_71 ?_
    refine lv_icmp_le (tgt := 88) hx hb dX3_moveCar_72 (by decide) (fun c3 => ?_) (fun c3 => ?_)
    · have hf := it_t c3 hf
      exact w3_moveCar_88 X hI hk hjl2 hH (lv_sub hl [0, 1, 2] rfl) hf
    · have hf := it_f c3 hf
      refine lv_aload_n hx hb dX3_moveCar_75 rfl (lv_at hl 0 rfl) ?_
      refine lv_aload_n hx hb dX3_moveCar_76 rfl (lv_at hl 1 rfl) ?_
      refine lv_iload_n hx hb dX3_moveCar_77 rfl (lv_at hl 2 rfl) ?_
      refine lv_aload_n hx hb dX3_moveCar_78 rfl (lv_at hl 0 rfl) ?_
      refine cr_gSt X hk s1_k hH.1 (i := 4) (v := .ref (ad (15 * k + 5))) (by decide) gfX3_26 rfl dX3_moveCar_79 ?_
      refine lv_iload hx hb dX3_moveCar_82 (lv_at hl 3 rfl) ?_
      obtain ⟨hi4, hf⟩ := gd_o hf
      refine cr_cars X hk hH.1 hi4 dX3_moveCar_84 ?_
      obtain ⟨t5, ht5, hf⟩ := bd_o hf
      refine k3_bump X hI hk hjl2 (vin_lt hi4) hH hl.1 qX3_138 ⟨Nat.le_of_ble_eq_true rfl, Nat.le_of_ble_eq_true rfl⟩ ht5 (Nat.le_of_ble_eq_true rfl) dX3_moveCar_85 ⟨Nat.zero_le _, Nat.zero_le _⟩ (fun H locs hH => ?_)
      exact w3_moveCar_88 X hI hk hjl2 hH (lv_sub hl [0, 1, 2] rfl) hf
def f3_moveCar_0 (x1 : Int32) (v0 : Nat → Int32) : Option ((Nat → Int32)) := gd x1 8 (Option.bind (f3_gradeAt_0 v0 (v0 (90 + 9 * ((Int32.toNatClampNeg x1)) + 4))) (fun t2 => gd 0 3 (Option.bind (f0_changeSpeed_0 ((Int32.toNatClampNeg x1)) (t2 - (v0 (168 + Int32.toNatClampNeg 0))) v0) (fun t4 => Option.bind (f0_changeHeat_0 ((Int32.toNatClampNeg x1)) t4) (fun t5 => Option.bind (f3_nextBefore_0 t5 x1) (fun t6 => f3_moveCar_49 ((Int32.toNatClampNeg x1)) (v0 (90 + 9 * ((Int32.toNatClampNeg x1)) + 4)) t6 (upd t5 (90 + 9 * ((Int32.toNatClampNeg x1)) + 4) ((v0 (90 + 9 * ((Int32.toNatClampNeg x1)) + 4)) + (t5 (90 + 9 * ((Int32.toNatClampNeg x1)) + 3))))))))))
set_option maxRecDepth 100000 in
set_option maxHeartbeats 4000000 in
theorem w3_moveCar_0 {p : Program} {l : Launch} {e : Env} {s : State} {m : MethodId} {args : Array Value} {below : List Frame} {meth : Method} {c : Code} {D : va_G} {Y : cYt} {ad : Nat → Nat} {μ : Nat → Nat → Int32} {k : Nat} {v0 : Nat → Int32} (X : cX D Y p s m args meth c cX3_moveCar 6 RX3 none) (hI : cInj ad) (hk : k < 10)  {x1 : Int32} {t : (Nat → Int32)}  {H : Heap} {locs : List Loc} (hH : cH D Y ad (s1 μ k v0) s H locs) {ls : Array Slot} (hl : lv_has ls 6 [(0, .ref (ad (15 * k))), (1, .int x1)]) (hf : f3_moveCar_0 x1 v0 = some t) : W p l e rm3_moveCar s m args below meth c H locs 0 0 (MQ below (va_Qv (fun (_ : Unit) => True) (fun _ t9 => cB D Y ad (s1 μ k t) t9) (cA ad s.heap.size)) args s 0 0 (cA ad s.heap.size)) (F0 m 0 ls []) := by
  obtain ⟨⟨hx, hb, hml, hown, hts⟩, hr, hlk, hK⟩ := id X
  replace hf : (gd x1 8 (Option.bind (f3_gradeAt_0 v0 (v0 (90 + 9 * ((Int32.toNatClampNeg x1)) + 4))) (fun t2 => gd 0 3 (Option.bind (f0_changeSpeed_0 ((Int32.toNatClampNeg x1)) (t2 - (v0 (168 + Int32.toNatClampNeg 0))) v0) (fun t4 => Option.bind (f0_changeHeat_0 ((Int32.toNatClampNeg x1)) t4) (fun t5 => Option.bind (f3_nextBefore_0 t5 x1) (fun t6 => f3_moveCar_49 ((Int32.toNatClampNeg x1)) (v0 (90 + 9 * ((Int32.toNatClampNeg x1)) + 4)) t6 (upd t5 (90 + 9 * ((Int32.toNatClampNeg x1)) + 4) ((v0 (90 + 9 * ((Int32.toNatClampNeg x1)) + 4)) + (t5 (90 + 9 * ((Int32.toNatClampNeg x1)) + 3))))))))))) = some t := hf
  refine lv_aload_n hx hb dX3_moveCar_0 rfl (lv_at hl 0 rfl) ?_
  refine cr_gSt X hk s1_k hH.1 (i := 4) (v := .ref (ad (15 * k + 5))) (by decide) gfX3_26 rfl dX3_moveCar_1 ?_
  refine lv_iload_n hx hb dX3_moveCar_4 rfl (lv_at hl 1 rfl) ?_
  obtain ⟨hi1, hf⟩ := gd_o hf
  refine cr_cars X hk hH.1 hi1 dX3_moveCar_5 ?_
  refine lv_astore_n (lv' := [(2, .ref (ad (15 * k + ((Int32.toNatClampNeg x1) + 7)))), (0, .ref (ad (15 * k))), (1, .int x1)]) hx hb dX3_moveCar_6 rfl hl (by decide) rfl (fun ls hl => ?_)
  refine lv_aload_n hx hb dX3_moveCar_7 rfl (lv_at hl 0 rfl) ?_
  refine cr_gCar X hk s1_k (j := (Int32.toNatClampNeg x1)) (vin_lt hi1) hH.1 (i := 4) (v := .int (v0 (90 + 9 * ((Int32.toNatClampNeg x1)) + 4))) (by decide) gfX3_120 rfl dX3_moveCar_8 ?_
  refine lv_istore_n (lv' := [(3, .int (v0 (90 + 9 * ((Int32.toNatClampNeg x1)) + 4))), (2, .ref (ad (15 * k + ((Int32.toNatClampNeg x1) + 7)))), (0, .ref (ad (15 * k))), (1, .int x1)]) hx hb dX3_moveCar_11 rfl hl (by decide) rfl (fun ls hl => ?_)
  refine lv_aload_n hx hb dX3_moveCar_12 rfl (lv_at hl 1 rfl) ?_
  refine lv_aload_n hx hb dX3_moveCar_13 rfl (lv_at hl 2 rfl) ?_
  refine lv_iload_n hx hb dX3_moveCar_14 rfl (lv_at hl 0 rfl) ?_
  obtain ⟨t2, ht2, hf⟩ := bd_o hf
  refine k3_gradeAt X hk s1_k hH.1 hl.1 qX3_123 ⟨Nat.le_of_ble_eq_true rfl, Nat.le_of_ble_eq_true rfl⟩ ht2 (Nat.le_of_ble_eq_true rfl) dX3_moveCar_15 ⟨Nat.zero_le _, Nat.zero_le _⟩ ?_
  refine lv_aload_n hx hb dX3_moveCar_18 rfl (lv_at hl 2 rfl) ?_
  refine cr_gSt X hk s1_k hH.1 (i := 3) (v := .ref (ad (15 * k + 4))) (by decide) gfX3_21 rfl dX3_moveCar_19 ?_
  refine lv_iconst (v := 0) hx hb dX3_moveCar_22 (by decide) ?_
  obtain ⟨hi3, hf⟩ := gd_o hf
  refine cr_ld4 X hk s1_k hH.1 hi3 dX3_moveCar_23 ?_
  refine lv_isub hx hb dX3_moveCar_24 ?_
  obtain ⟨t4, ht4, hf⟩ := bd_o hf
  refine k0_changeSpeed X hI hk (vin_lt hi1) hH hl.1 qX3_126 ⟨Nat.le_of_ble_eq_true rfl, Nat.le_of_ble_eq_true rfl⟩ ht4 (Nat.le_of_ble_eq_true rfl) dX3_moveCar_25 ⟨Nat.zero_le _, Nat.zero_le _⟩ (fun H locs hH => ?_)
  refine lv_aload_n hx hb dX3_moveCar_28 rfl (lv_at hl 1 rfl) ?_
  obtain ⟨t5, ht5, hf⟩ := bd_o hf
  refine k0_changeHeat X hI hk (vin_lt hi1) hH hl.1 qX3_129 ⟨Nat.le_of_ble_eq_true rfl, Nat.le_of_ble_eq_true rfl⟩ ht5 (Nat.le_of_ble_eq_true rfl) dX3_moveCar_29 ⟨Nat.zero_le _, Nat.zero_le _⟩ (fun H locs hH => ?_)
  refine lv_aload_n hx hb dX3_moveCar_32 rfl (lv_at hl 2 rfl) ?_
  refine lv_iload_n hx hb dX3_moveCar_33 rfl (lv_at hl 3 rfl) ?_
  obtain ⟨t6, ht6, hf⟩ := bd_o hf
  refine k3_nextBefore X hk s1_k hH.1 hl.1 qX3_132 ⟨Nat.le_of_ble_eq_true rfl, Nat.le_of_ble_eq_true rfl⟩ ht6 (Nat.le_of_ble_eq_true rfl) dX3_moveCar_34 ⟨Nat.zero_le _, Nat.zero_le _⟩ ?_
  refine lv_istore (lv' := [(4, .int t6), (3, .int (v0 (90 + 9 * ((Int32.toNatClampNeg x1)) + 4))), (2, .ref (ad (15 * k + ((Int32.toNatClampNeg x1) + 7)))), (0, .ref (ad (15 * k))), (1, .int x1)]) hx hb dX3_moveCar_37 hl (by decide) rfl (fun ls hl => ?_)
  refine lv_aload_n hx hb dX3_moveCar_39 rfl (lv_at hl 2 rfl) ?_
  refine lv_iload_n hx hb dX3_moveCar_40 rfl (lv_at hl 1 rfl) ?_
  refine lv_aload_n hx hb dX3_moveCar_41 rfl (lv_at hl 2 rfl) ?_
  refine cr_gCar X hk s1_k (j := (Int32.toNatClampNeg x1)) (vin_lt hi1) hH.1 (i := 3) (v := .int (t5 (90 + 9 * ((Int32.toNatClampNeg x1)) + 3))) (by decide) gfX3_135 rfl dX3_moveCar_42 ?_
  refine lv_iadd hx hb dX3_moveCar_45 ?_
  refine cv_pCar X hI hk (vin_lt hi1) hH 4 (by decide) gfX3_120 dX3_moveCar_46 (fun H locs hH => ?_)
  exact w3_moveCar_49 X hI hk (vin_lt hi1) hH (lv_sub hl [3, 2, 1, 0] rfl) hf
set_option maxRecDepth 100000 in
set_option maxHeartbeats 4000000 in
theorem c3_moveCar (l : Launch) {D : va_G} {Y : cYt} {ad : Nat → Nat} {μ : Nat → Nat → Int32} {k : Nat} (hk : k < 10) (hI : cInj ad) (sz : Nat) (x1 : Int32) {t : (Nat → Int32)} (hf : f3_moveCar_0 x1 (μ k) = some t) : Met l yX3_moveCar uX3_moveCar rm3_moveCar (va_Pc [.ref (ad (15 * k)), .int x1] (fun U => U.heap.size = sz ∧ cB D Y ad μ U)) (va_Qv (fun (_ : Unit) => True) (fun _ t9 => cB D Y ad (s1 μ k t) t9) (cA ad sz)) 0 0 (cA ad sz) := by
  refine Met.ofW (cc := cX3_moveCar) (maxL := 6) (ret := none) (by decide) rfl ?_
  intro p e s m args below meth c s₁ B hml hv
  obtain ⟨rfl, hsz, hP, hK⟩ := hv
  subst hsz
  have X : cX D Y p s m ([.ref (ad (15 * k)), .int x1] : List Value).toArray meth c cX3_moveCar 6 RX3 none := ⟨⟨B.exec, B.bytes, hml, findClass_of_methodNamed B.named, fun w h => atoms_spec (ws := uX3_moveCar) B.pre w (List.mem_cons_of_mem _ h)⟩, B.returns, B.notSynchronized, hK⟩
  have hl := lv_entry ([.ref (ad (15 * k)), .int x1]) (n := 6) (Nat.le_of_ble_eq_true rfl)
  rw [lg_entry_eq]
  generalize (lg_sl ([.ref (ad (15 * k)), .int x1]) ++ List.replicate (6 - (lg_sl ([.ref (ad (15 * k)), .int x1])).length) Slot.unset).toArray = ls at hl ⊢
  have hl : lv_has ls 6 [(0, .ref (ad (15 * k))), (1, .int x1)] := hl
  exact w3_moveCar_0 X hI hk (cH_in k ⟨hP, va_S.rf⟩) (lv_sub hl [0, 1] rfl) hf
set_option maxRecDepth 100000 in
set_option maxHeartbeats 4000000 in
theorem km3_moveCar {p : Program} {l : Launch} {e : Env} {R : Room} {s : State} {m : MethodId} {args : Array Value} {below : List Frame} {meth : Method} {c : Code} {cc : ByteArray} {nL : Nat} {own : String} {ret : Option FieldType} {D : va_G} {Y : cYt} {ad : Nat → Nat} {μ : Nat → Nat → Int32} {H : Heap} {locs : List Loc} {cells slots : Nat} {Q : State → Prop} {pc : Nat} {ls : Array Slot} {rest : List Value} (X : cX D Y p s m args meth c cc nL own ret) {k : Nat} (hI : cInj ad) (hk : k < 10) (hH : cH D Y ad μ s H locs) (hls : ls.size = nL) {index : Nat} (hG : GoodIn gw (wsV own index RX3 yX3_moveCar uX3_moveCar)) (hR : rm3_moveCar.frames + 1 ≤ R.frames ∧ 8 + (6 + 11) + rm3_moveCar.locals ≤ R.locals) {x1 : Int32} {t : (Nat → Int32)} (hf : f3_moveCar_0 x1 (μ k) = some t) (hrest : (rest.map fun v => v.category).sum ≤ 8) (hdg : decode cc pc = .ok (.invokevirtual index, 3)) (hc : cells ≤ R.cells ∧ slots ≤ R.slots) (kk : ∀ (H1 : Heap) (locs1 : List Loc), cH D Y ad (s1 μ k t) s H1 locs1 → W p l e R s m args below meth c H1 locs1 cells slots Q (F0 m (pc + 3) ls (rest))) : W p l e R s m args below meth c H locs cells slots Q (F0 m pc ls (.int x1 :: .ref (ad (15 * k)) :: rest)) := by
  have hA : ∀ q, cA ad H.size q → cA ad s.heap.size q := fun q h => h.elim Or.inl (fun h => Or.inr (Nat.le_trans hH.2.1 h))
  refine va_callv (va_runV (As := [.int x1]) (rest := rest) X.1 (c3_moveCar l hk hI H.size x1 hf) (cwV 1 X.1.2.2.2.2 hG rfl rfl rfl (by decide +kernel) hR) ⟨cBs_bl, va_recv X.2.2.2 hH.1 (ci := 3) (q0 := 15 * k) rfl (cw_ate (by omega) ((cw_st (r := 0) hk (by omega)).trans rfl)), fun U hU hW => ⟨rfl, by rw [hU], by rw [hU]; exact hH.1, va_K.moved hW.alike X.2.2.2⟩⟩ rfl rfl hls rfl (lv_room hrest) hdg hc) hH.2 (fun q _ h => hA q h) hA (fun u t9 H1 locs1 ht hvm hw hB hz1 hk1 hS => ?_)
  exact kk H1 locs1 ⟨by rw [← ht]; exact hB.1, hS⟩
set_option maxRecDepth 100000 in
set_option maxHeartbeats 4000000 in
theorem k3_moveCar {p : Program} {l : Launch} {e : Env} {R : Room} {s : State} {m : MethodId} {args : Array Value} {below : List Frame} {meth : Method} {c : Code} {cc : ByteArray} {nL : Nat} {own : String} {ret : Option FieldType} {D : va_G} {Y : cYt} {ad : Nat → Nat} {μ : Nat → Nat → Int32} {H : Heap} {locs : List Loc} {cells slots : Nat} {Q : State → Prop} {pc : Nat} {ls : Array Slot} {rest : List Value} (X : cX D Y p s m args meth c cc nL own ret) {k : Nat} {v0 : Nat → Int32} (hI : cInj ad) (hk : k < 10) (hH : cH D Y ad (s1 μ k v0) s H locs) (hls : ls.size = nL) {index : Nat} (hG : GoodIn gw (wsV own index RX3 yX3_moveCar uX3_moveCar)) (hR : rm3_moveCar.frames + 1 ≤ R.frames ∧ 8 + (6 + 11) + rm3_moveCar.locals ≤ R.locals) {x1 : Int32} {t : (Nat → Int32)} (hf : f3_moveCar_0 x1 v0 = some t) (hrest : (rest.map fun v => v.category).sum ≤ 8) (hdg : decode cc pc = .ok (.invokevirtual index, 3)) (hc : cells ≤ R.cells ∧ slots ≤ R.slots) (kk : ∀ (H1 : Heap) (locs1 : List Loc), cH D Y ad (s1 μ k t) s H1 locs1 → W p l e R s m args below meth c H1 locs1 cells slots Q (F0 m (pc + 3) ls (rest))) : W p l e R s m args below meth c H locs cells slots Q (F0 m pc ls (.int x1 :: .ref (ad (15 * k)) :: rest)) := by
  have hf2 : f3_moveCar_0 x1 (s1 μ k v0 k) = some t := by rw [s1_k]; exact hf
  exact km3_moveCar (μ := s1 μ k v0) X hI hk hH hls hG hR hf2 hrest hdg hc (fun H1 locs1 h => kk H1 locs1 (by rw [s1_s1] at h; exact h))
/-! OreRailway$State.pullOn(LOreRailway$Car;)V -/
def rm3_pullOn : Room := { frames := 1, cells := 0, slots := 0, locals := 21 }
def f3_pullOn_31 (v0 : Nat → Int32) : Option ((Nat → Int32)) := some (v0)
set_option maxRecDepth 100000 in
set_option maxHeartbeats 4000000 in
theorem w3_pullOn_31 {p : Program} {l : Launch} {e : Env} {s : State} {m : MethodId} {args : Array Value} {below : List Frame} {meth : Method} {c : Code} {D : va_G} {Y : cYt} {ad : Nat → Nat} {μ : Nat → Nat → Int32} {k : Nat} {v0 : Nat → Int32} (X : cX D Y p s m args meth c cX3_pullOn 2 RX3 none) (hI : cInj ad) (hk : k < 10)  {t : (Nat → Int32)}  {H : Heap} {locs : List Loc} (hH : cH D Y ad (s1 μ k v0) s H locs) {ls : Array Slot} (hl : lv_has ls 2 []) (hf : f3_pullOn_31 v0 = some t) : W p l e rm3_pullOn s m args below meth c H locs 0 0 (MQ below (va_Qv (fun (_ : Unit) => True) (fun _ t9 => cB D Y ad (s1 μ k t) t9) (cA ad s.heap.size)) args s 0 0 (cA ad s.heap.size)) (F0 m 31 ls []) := by
  obtain ⟨⟨hx, hb, hml, hown, hts⟩, hr, hlk, hK⟩ := id X
  replace hf : (some (v0)) = some t := hf
  obtain rfl := so_i hf
  exact cr_vw X hH rfl dX3_pullOn_31
def f3_pullOn_19 (jl1 : Nat) (v0 : Nat → Int32) : Option ((Nat → Int32)) := if (v0 (90 + 9 * jl1 + 4)) = 0 then (f3_pullOn_31 (upd v0 (90 + 9 * jl1 + 0) 0)) else (f3_pullOn_31 v0)
set_option maxRecDepth 100000 in
set_option maxHeartbeats 4000000 in
theorem w3_pullOn_19 {p : Program} {l : Launch} {e : Env} {s : State} {m : MethodId} {args : Array Value} {below : List Frame} {meth : Method} {c : Code} {D : va_G} {Y : cYt} {ad : Nat → Nat} {μ : Nat → Nat → Int32} {k : Nat} {v0 : Nat → Int32} (X : cX D Y p s m args meth c cX3_pullOn 2 RX3 none) (hI : cInj ad) (hk : k < 10)  {jl1 : Nat} {t : (Nat → Int32)}  (hjl1 : jl1 < 8) {H : Heap} {locs : List Loc} (hH : cH D Y ad (s1 μ k v0) s H locs) {ls : Array Slot} (hl : lv_has ls 2 [(1, .ref (ad (15 * k + (jl1 + 7))))]) (hf : f3_pullOn_19 jl1 v0 = some t) : W p l e rm3_pullOn s m args below meth c H locs 0 0 (MQ below (va_Qv (fun (_ : Unit) => True) (fun _ t9 => cB D Y ad (s1 μ k t) t9) (cA ad s.heap.size)) args s 0 0 (cA ad s.heap.size)) (F0 m 19 ls []) := by
  obtain ⟨⟨hx, hb, hml, hown, hts⟩, hr, hlk, hK⟩ := id X
  replace hf : (if (v0 (90 + 9 * jl1 + 4)) = 0 then (f3_pullOn_31 (upd v0 (90 + 9 * jl1 + 0) 0)) else (f3_pullOn_31 v0)) = some t := hf
  refine lv_aload_n hx hb dX3_pullOn_19 rfl (lv_at hl 0 rfl) ?_
  refine cr_gCar X hk s1_k (j := jl1) hjl1 hH.1 (i := 4) (v := .int (v0 (90 + 9 * jl1 + 4))) (by decide) gfX3_120 rfl dX3_pullOn_20 ?_
  refine lv_if_ne (tgt := 31) hx hb dX3_pullOn_23 (by decide) (fun c1 => ?_) (fun c1 => ?_)
  · have hf := it_f c1 hf
    exact w3_pullOn_31 X hI hk hH (lv_sub hl [] rfl) hf
  · have hf := it_t c1 hf
    refine lv_aload_n hx hb dX3_pullOn_26 rfl (lv_at hl 0 rfl) ?_
    refine lv_iconst (v := 0) hx hb dX3_pullOn_27 (by decide) ?_
    refine cv_pCar X hI hk hjl1 hH 0 (by decide) gfX3_67 dX3_pullOn_28 (fun H locs hH => ?_)
    exact w3_pullOn_31 X hI hk hH (lv_sub hl [] rfl) hf
def f3_pullOn_0 (jl1 : Nat) (v0 : Nat → Int32) : Option ((Nat → Int32)) := gd 1 3 (f3_pullOn_19 jl1 (upd v0 (90 + 9 * jl1 + 4) (if 0 < ((v0 (90 + 9 * jl1 + 4)) - (v0 (168 + Int32.toNatClampNeg 1))) then ((v0 (90 + 9 * jl1 + 4)) - (v0 (168 + Int32.toNatClampNeg 1))) else 0)))
set_option maxRecDepth 100000 in
set_option maxHeartbeats 4000000 in
theorem w3_pullOn_0 {p : Program} {l : Launch} {e : Env} {s : State} {m : MethodId} {args : Array Value} {below : List Frame} {meth : Method} {c : Code} {D : va_G} {Y : cYt} {ad : Nat → Nat} {μ : Nat → Nat → Int32} {k : Nat} {v0 : Nat → Int32} (X : cX D Y p s m args meth c cX3_pullOn 2 RX3 none) (hI : cInj ad) (hk : k < 10)  {jl1 : Nat} {t : (Nat → Int32)}  (hjl1 : jl1 < 8) {H : Heap} {locs : List Loc} (hH : cH D Y ad (s1 μ k v0) s H locs) {ls : Array Slot} (hl : lv_has ls 2 [(0, .ref (ad (15 * k))), (1, .ref (ad (15 * k + (jl1 + 7))))]) (hf : f3_pullOn_0 jl1 v0 = some t) : W p l e rm3_pullOn s m args below meth c H locs 0 0 (MQ below (va_Qv (fun (_ : Unit) => True) (fun _ t9 => cB D Y ad (s1 μ k t) t9) (cA ad s.heap.size)) args s 0 0 (cA ad s.heap.size)) (F0 m 0 ls []) := by
  obtain ⟨⟨hx, hb, hml, hown, hts⟩, hr, hlk, hK⟩ := id X
  replace hf : (gd 1 3 (f3_pullOn_19 jl1 (upd v0 (90 + 9 * jl1 + 4) (if 0 < ((v0 (90 + 9 * jl1 + 4)) - (v0 (168 + Int32.toNatClampNeg 1))) then ((v0 (90 + 9 * jl1 + 4)) - (v0 (168 + Int32.toNatClampNeg 1))) else 0)))) = some t := hf
  refine lv_aload_n hx hb dX3_pullOn_0 rfl (lv_at hl 1 rfl) ?_
  refine lv_iconst (v := 0) hx hb dX3_pullOn_1 (by decide) ?_
  refine lv_aload_n hx hb dX3_pullOn_2 rfl (lv_at hl 1 rfl) ?_
  refine cr_gCar X hk s1_k (j := jl1) hjl1 hH.1 (i := 4) (v := .int (v0 (90 + 9 * jl1 + 4))) (by decide) gfX3_120 rfl dX3_pullOn_3 ?_
  refine lv_aload_n hx hb dX3_pullOn_6 rfl (lv_at hl 0 rfl) ?_
  refine cr_gSt X hk s1_k hH.1 (i := 3) (v := .ref (ad (15 * k + 4))) (by decide) gfX3_21 rfl dX3_pullOn_7 ?_
  refine lv_iconst (v := 1) hx hb dX3_pullOn_10 (by decide) ?_
  obtain ⟨hi1, hf⟩ := gd_o hf
  refine cr_ld4 X hk s1_k hH.1 hi1 dX3_pullOn_11 ?_
  refine lv_isub hx hb dX3_pullOn_12 ?_
  refine va_mmax hx hb (hml.trans hl.1.symm) hown (hts _ gmX3_149) (hts _ gl_static_Lib_Math_max_name) (hts _ gi_java_lang_Math) (hts _ gl_code_Lib_Math_max_name) (Nat.le_of_ble_eq_true rfl) (Nat.le_of_ble_eq_true rfl) (Nat.zero_le _) (Nat.zero_le _) dX3_pullOn_13 ?_
  refine cv_pCar X hI hk hjl1 hH 4 (by decide) gfX3_120 dX3_pullOn_16 (fun H locs hH => ?_)
  exact w3_pullOn_19 X hI hk hjl1 hH (lv_sub hl [1] rfl) hf
set_option maxRecDepth 100000 in
set_option maxHeartbeats 4000000 in
theorem c3_pullOn (l : Launch) {D : va_G} {Y : cYt} {ad : Nat → Nat} {μ : Nat → Nat → Int32} {k : Nat} {ja1 : Nat} (hk : k < 10) (hja1 : ja1 < 8) (hI : cInj ad) (sz : Nat) {t : (Nat → Int32)} (hf : f3_pullOn_0 ja1 (μ k) = some t) : Met l yX3_pullOn uX3_pullOn rm3_pullOn (va_Pc [.ref (ad (15 * k)), .ref (ad (15 * k + (ja1 + 7)))] (fun U => U.heap.size = sz ∧ cB D Y ad μ U)) (va_Qv (fun (_ : Unit) => True) (fun _ t9 => cB D Y ad (s1 μ k t) t9) (cA ad sz)) 0 0 (cA ad sz) := by
  refine Met.ofW (cc := cX3_pullOn) (maxL := 2) (ret := none) (by decide) rfl ?_
  intro p e s m args below meth c s₁ B hml hv
  obtain ⟨rfl, hsz, hP, hK⟩ := hv
  subst hsz
  have X : cX D Y p s m ([.ref (ad (15 * k)), .ref (ad (15 * k + (ja1 + 7)))] : List Value).toArray meth c cX3_pullOn 2 RX3 none := ⟨⟨B.exec, B.bytes, hml, findClass_of_methodNamed B.named, fun w h => atoms_spec (ws := uX3_pullOn) B.pre w (List.mem_cons_of_mem _ h)⟩, B.returns, B.notSynchronized, hK⟩
  have hl := lv_entry ([.ref (ad (15 * k)), .ref (ad (15 * k + (ja1 + 7)))]) (n := 2) (Nat.le_of_ble_eq_true rfl)
  rw [lg_entry_eq]
  generalize (lg_sl ([.ref (ad (15 * k)), .ref (ad (15 * k + (ja1 + 7)))]) ++ List.replicate (2 - (lg_sl ([.ref (ad (15 * k)), .ref (ad (15 * k + (ja1 + 7)))])).length) Slot.unset).toArray = ls at hl ⊢
  have hl : lv_has ls 2 [(0, .ref (ad (15 * k))), (1, .ref (ad (15 * k + (ja1 + 7))))] := hl
  exact w3_pullOn_0 X hI hk hja1 (cH_in k ⟨hP, va_S.rf⟩) (lv_sub hl [0, 1] rfl) hf
set_option maxRecDepth 100000 in
set_option maxHeartbeats 4000000 in
theorem km3_pullOn {p : Program} {l : Launch} {e : Env} {R : Room} {s : State} {m : MethodId} {args : Array Value} {below : List Frame} {meth : Method} {c : Code} {cc : ByteArray} {nL : Nat} {own : String} {ret : Option FieldType} {D : va_G} {Y : cYt} {ad : Nat → Nat} {μ : Nat → Nat → Int32} {H : Heap} {locs : List Loc} {cells slots : Nat} {Q : State → Prop} {pc : Nat} {ls : Array Slot} {rest : List Value} (X : cX D Y p s m args meth c cc nL own ret) {k : Nat} {ja1 : Nat} (hI : cInj ad) (hk : k < 10) (hja1 : ja1 < 8) (hH : cH D Y ad μ s H locs) (hls : ls.size = nL) {index : Nat} (hG : GoodIn gw (wsV own index RX3 yX3_pullOn uX3_pullOn)) (hR : rm3_pullOn.frames + 1 ≤ R.frames ∧ 8 + (2 + 11) + rm3_pullOn.locals ≤ R.locals) {t : (Nat → Int32)} (hf : f3_pullOn_0 ja1 (μ k) = some t) (hrest : (rest.map fun v => v.category).sum ≤ 8) (hdg : decode cc pc = .ok (.invokevirtual index, 3)) (hc : cells ≤ R.cells ∧ slots ≤ R.slots) (kk : ∀ (H1 : Heap) (locs1 : List Loc), cH D Y ad (s1 μ k t) s H1 locs1 → W p l e R s m args below meth c H1 locs1 cells slots Q (F0 m (pc + 3) ls (rest))) : W p l e R s m args below meth c H locs cells slots Q (F0 m pc ls (.ref (ad (15 * k + (ja1 + 7))) :: .ref (ad (15 * k)) :: rest)) := by
  have hA : ∀ q, cA ad H.size q → cA ad s.heap.size q := fun q h => h.elim Or.inl (fun h => Or.inr (Nat.le_trans hH.2.1 h))
  refine va_callv (va_runV (As := [.ref (ad (15 * k + (ja1 + 7)))]) (rest := rest) X.1 (c3_pullOn l hk hja1 hI H.size hf) (cwV 1 X.1.2.2.2.2 hG rfl rfl rfl (by decide +kernel) hR) ⟨cBs_bl, va_recv X.2.2.2 hH.1 (ci := 3) (q0 := 15 * k) rfl (cw_ate (by omega) ((cw_st (r := 0) hk (by omega)).trans rfl)), fun U hU hW => ⟨rfl, by rw [hU], by rw [hU]; exact hH.1, va_K.moved hW.alike X.2.2.2⟩⟩ rfl rfl hls rfl (lv_room hrest) hdg hc) hH.2 (fun q _ h => hA q h) hA (fun u t9 H1 locs1 ht hvm hw hB hz1 hk1 hS => ?_)
  exact kk H1 locs1 ⟨by rw [← ht]; exact hB.1, hS⟩
set_option maxRecDepth 100000 in
set_option maxHeartbeats 4000000 in
theorem k3_pullOn {p : Program} {l : Launch} {e : Env} {R : Room} {s : State} {m : MethodId} {args : Array Value} {below : List Frame} {meth : Method} {c : Code} {cc : ByteArray} {nL : Nat} {own : String} {ret : Option FieldType} {D : va_G} {Y : cYt} {ad : Nat → Nat} {μ : Nat → Nat → Int32} {H : Heap} {locs : List Loc} {cells slots : Nat} {Q : State → Prop} {pc : Nat} {ls : Array Slot} {rest : List Value} (X : cX D Y p s m args meth c cc nL own ret) {k : Nat} {v0 : Nat → Int32} {ja1 : Nat} (hI : cInj ad) (hk : k < 10) (hja1 : ja1 < 8) (hH : cH D Y ad (s1 μ k v0) s H locs) (hls : ls.size = nL) {index : Nat} (hG : GoodIn gw (wsV own index RX3 yX3_pullOn uX3_pullOn)) (hR : rm3_pullOn.frames + 1 ≤ R.frames ∧ 8 + (2 + 11) + rm3_pullOn.locals ≤ R.locals) {t : (Nat → Int32)} (hf : f3_pullOn_0 ja1 v0 = some t) (hrest : (rest.map fun v => v.category).sum ≤ 8) (hdg : decode cc pc = .ok (.invokevirtual index, 3)) (hc : cells ≤ R.cells ∧ slots ≤ R.slots) (kk : ∀ (H1 : Heap) (locs1 : List Loc), cH D Y ad (s1 μ k t) s H1 locs1 → W p l e R s m args below meth c H1 locs1 cells slots Q (F0 m (pc + 3) ls (rest))) : W p l e R s m args below meth c H locs cells slots Q (F0 m pc ls (.ref (ad (15 * k + (ja1 + 7))) :: .ref (ad (15 * k)) :: rest)) := by
  have hf2 : f3_pullOn_0 ja1 (s1 μ k v0 k) = some t := by rw [s1_k]; exact hf
  exact km3_pullOn (μ := s1 μ k v0) X hI hk hja1 hH hls hG hR hf2 hrest hdg hc (fun H1 locs1 h => kk H1 locs1 (by rw [s1_s1] at h; exact h))
/-! OreRailway$State.passTick()V -/
def rm3_passTick : Room := { frames := 3, cells := 0, slots := 0, locals := 71 }
def f3_passTick_107 (K59 : Int32 → Int32 → (Nat → Int32) → (Nat → Int32) → (Option ((Nat → Int32) × (Nat → Int32)))) (x1 : Int32) (x2 : Int32) (v0 : Nat → Int32) (v2 : Nat → Int32) : Option ((Nat → Int32) × (Nat → Int32)) := K59 x1 (x2 + 1) v0 v2
set_option maxRecDepth 100000 in
set_option maxHeartbeats 4000000 in
theorem w3_passTick_107 {p : Program} {l : Launch} {e : Env} {s : State} {m : MethodId} {args : Array Value} {below : List Frame} {meth : Method} {c : Code} {D : va_G} {Y : cYt} {ad : Nat → Nat} {μ : Nat → Nat → Int32} {k : Nat} {v0 : Nat → Int32} {v2 : Nat → Int32} (X : cX D Y p s m args meth c cX3_passTick 3 RX3 none) (hI : cInj ad) (hk : k < 10)  {x1 : Int32} {x2 : Int32} {t : (Nat → Int32) × (Nat → Int32)} {K59 : Int32 → Int32 → (Nat → Int32) → (Nat → Int32) → (Option ((Nat → Int32) × (Nat → Int32)))} (hK59 : ∀ (x1 : Int32) (x2 : Int32) (v0 : Nat → Int32) (v2 : Nat → Int32) (H : Heap) (locs : List Loc), cH D Y ad (s1 (s1 μ (k + 20) v2) k v0) s H locs → ∀ (ls : Array Slot), lv_has ls 3 [(0, .ref (ad (15 * k))), (1, .int x1), (2, .int x2)] → K59 x1 x2 v0 v2 = some t → W p l e rm3_passTick s m args below meth c H locs 0 0 (MQ below (va_Qv (fun (_ : Unit) => True) (fun _ t9 => cB D Y ad (s1 (s1 μ (k + 20) t.2) k t.1) t9) (cA ad s.heap.size)) args s 0 0 (cA ad s.heap.size)) (F0 m 59 ls []))  {H : Heap} {locs : List Loc} (hH : cH D Y ad (s1 (s1 μ (k + 20) v2) k v0) s H locs) {ls : Array Slot} (hl : lv_has ls 3 [(0, .ref (ad (15 * k))), (1, .int x1), (2, .int x2)]) (hf : f3_passTick_107 K59 x1 x2 v0 v2 = some t) : W p l e rm3_passTick s m args below meth c H locs 0 0 (MQ below (va_Qv (fun (_ : Unit) => True) (fun _ t9 => cB D Y ad (s1 (s1 μ (k + 20) t.2) k t.1) t9) (cA ad s.heap.size)) args s 0 0 (cA ad s.heap.size)) (F0 m 107 ls []) := by
  obtain ⟨⟨hx, hb, hml, hown, hts⟩, hr, hlk, hK⟩ := id X
  replace hf : (K59 x1 (x2 + 1) v0 v2) = some t := hf
  refine lv_iinc (v := x2 + 1) (lv' := [(2, .int (x2 + 1)), (0, .ref (ad (15 * k))), (1, .int x1)]) hx hb dX3_passTick_107 hl (k := 2) rfl rfl (by decide) rfl (fun ls hl => ?_)
  refine lv_goto (tgt := 59) hx hb dX3_passTick_110 (by decide) ?_
  exact hK59 _ _ _ _ _ _ hH _ (lv_sub hl [1, 2, 0] rfl) hf
def f3_passTick_84 (K59 : Int32 → Int32 → (Nat → Int32) → (Nat → Int32) → (Option ((Nat → Int32) × (Nat → Int32)))) (x1 : Int32) (x2 : Int32) (v0 : Nat → Int32) (v2 : Nat → Int32) : Option ((Nat → Int32) × (Nat → Int32)) := gd x2 8 (if (v0 (90 + 9 * ((Int32.toNatClampNeg x2)) + 0)) = 4 then (gd x2 8 (Option.bind (f3_pullOn_0 ((Int32.toNatClampNeg x2)) v0) (fun t4 => f3_passTick_107 K59 x1 x2 t4 v2))) else (f3_passTick_107 K59 x1 x2 v0 v2))
set_option maxRecDepth 100000 in
set_option maxHeartbeats 4000000 in
theorem w3_passTick_84 {p : Program} {l : Launch} {e : Env} {s : State} {m : MethodId} {args : Array Value} {below : List Frame} {meth : Method} {c : Code} {D : va_G} {Y : cYt} {ad : Nat → Nat} {μ : Nat → Nat → Int32} {k : Nat} {v0 : Nat → Int32} {v2 : Nat → Int32} (X : cX D Y p s m args meth c cX3_passTick 3 RX3 none) (hI : cInj ad) (hk : k < 10)  {x1 : Int32} {x2 : Int32} {t : (Nat → Int32) × (Nat → Int32)} {K59 : Int32 → Int32 → (Nat → Int32) → (Nat → Int32) → (Option ((Nat → Int32) × (Nat → Int32)))} (hK59 : ∀ (x1 : Int32) (x2 : Int32) (v0 : Nat → Int32) (v2 : Nat → Int32) (H : Heap) (locs : List Loc), cH D Y ad (s1 (s1 μ (k + 20) v2) k v0) s H locs → ∀ (ls : Array Slot), lv_has ls 3 [(0, .ref (ad (15 * k))), (1, .int x1), (2, .int x2)] → K59 x1 x2 v0 v2 = some t → W p l e rm3_passTick s m args below meth c H locs 0 0 (MQ below (va_Qv (fun (_ : Unit) => True) (fun _ t9 => cB D Y ad (s1 (s1 μ (k + 20) t.2) k t.1) t9) (cA ad s.heap.size)) args s 0 0 (cA ad s.heap.size)) (F0 m 59 ls []))  {H : Heap} {locs : List Loc} (hH : cH D Y ad (s1 (s1 μ (k + 20) v2) k v0) s H locs) {ls : Array Slot} (hl : lv_has ls 3 [(0, .ref (ad (15 * k))), (1, .int x1), (2, .int x2)]) (hf : f3_passTick_84 K59 x1 x2 v0 v2 = some t) : W p l e rm3_passTick s m args below meth c H locs 0 0 (MQ below (va_Qv (fun (_ : Unit) => True) (fun _ t9 => cB D Y ad (s1 (s1 μ (k + 20) t.2) k t.1) t9) (cA ad s.heap.size)) args s 0 0 (cA ad s.heap.size)) (F0 m 84 ls []) := by
  obtain ⟨⟨hx, hb, hml, hown, hts⟩, hr, hlk, hK⟩ := id X
  replace hf : (gd x2 8 (if (v0 (90 + 9 * ((Int32.toNatClampNeg x2)) + 0)) = 4 then (gd x2 8 (Option.bind (f3_pullOn_0 ((Int32.toNatClampNeg x2)) v0) (fun t4 => f3_passTick_107 K59 x1 x2 t4 v2))) else (f3_passTick_107 K59 x1 x2 v0 v2))) = some t := hf
  refine lv_aload_n hx hb dX3_passTick_84 rfl (lv_at hl 0 rfl) ?_
  refine cr_gSt X hk s1_k hH.1 (i := 4) (v := .ref (ad (15 * k + 5))) (by decide) gfX3_26 rfl dX3_passTick_85 ?_
  refine lv_iload_n hx hb dX3_passTick_88 rfl (lv_at hl 2 rfl) ?_
  obtain ⟨hi1, hf⟩ := gd_o hf
  refine cr_cars X hk hH.1 hi1 dX3_passTick_89 ?_
  refine cr_gCar X hk s1_k (j := (Int32.toNatClampNeg x2)) (vin_lt hi1) hH.1 (i := 0) (v := .int (v0 (90 + 9 * ((Int32.toNatClampNeg x2)) + 0))) (by decide) gfX3_67 rfl dX3_passTick_90 ?_
  refine lv_iconst (v := 4) hx hb dX3_passTick_93 (by decide) ?_
  refine lv_icmp_ne (tgt := 107) hx hb dX3_passTick_94 (by decide) (fun c2 => ?_) (fun c2 => ?_)
  · have hf := it_f c2 hf
    exact w3_passTick_107 X hI hk (K59 := K59) hK59 hH (lv_sub hl [0, 1, 2] rfl) hf
  · have hf := it_t c2 hf
    refine lv_aload_n hx hb dX3_passTick_97 rfl (lv_at hl 0 rfl) ?_
    refine lv_aload_n hx hb dX3_passTick_98 rfl (lv_at hl 0 rfl) ?_
    refine cr_gSt X hk s1_k hH.1 (i := 4) (v := .ref (ad (15 * k + 5))) (by decide) gfX3_26 rfl dX3_passTick_99 ?_
    refine lv_iload_n hx hb dX3_passTick_102 rfl (lv_at hl 2 rfl) ?_
    obtain ⟨hi3, hf⟩ := gd_o hf
    refine cr_cars X hk hH.1 hi3 dX3_passTick_103 ?_
    obtain ⟨t4, ht4, hf⟩ := bd_o hf
    refine k3_pullOn X hI hk (vin_lt hi3) hH hl.1 qX3_110 ⟨Nat.le_of_ble_eq_true rfl, Nat.le_of_ble_eq_true rfl⟩ ht4 (Nat.le_of_ble_eq_true rfl) dX3_passTick_104 ⟨Nat.zero_le _, Nat.zero_le _⟩ (fun H locs hH => ?_)
    exact w3_passTick_107 X hI hk (K59 := K59) hK59 hH (lv_sub hl [0, 1, 2] rfl) hf
def f3_passTick_59 : Nat → Int32 → Int32 → (Nat → Int32) → (Nat → Int32) → Option ((Nat → Int32) × (Nat → Int32))
  | 0, _, _, _, _ => none
  | n + 1, x1, x2, v0, v2 => if (v0 162) ≤ x2 then (some (v0, v2)) else (if (x1 &&& (1 <<< (x2 &&& 31))) = 0 then (gd x2 8 (Option.bind (f0_coolDown_0 ((Int32.toNatClampNeg x2)) v0) (fun t4 => f3_passTick_84 (f3_passTick_59 n) x1 x2 t4 v2))) else (f3_passTick_84 (f3_passTick_59 n) x1 x2 v0 v2))
set_option maxRecDepth 100000 in
set_option maxHeartbeats 4000000 in
theorem w3_passTick_59 {p : Program} {l : Launch} {e : Env} {s : State} {m : MethodId} {args : Array Value} {below : List Frame} {meth : Method} {c : Code} {D : va_G} {Y : cYt} {ad : Nat → Nat} {μ : Nat → Nat → Int32} {k : Nat} (X : cX D Y p s m args meth c cX3_passTick 3 RX3 none) (hI : cInj ad) (hk : k < 10)  {t : (Nat → Int32) × (Nat → Int32)} :
    ∀ (n : Nat) (x1 : Int32) (x2 : Int32) (v0 : Nat → Int32) (v2 : Nat → Int32) (H : Heap) (locs : List Loc), cH D Y ad (s1 (s1 μ (k + 20) v2) k v0) s H locs → ∀ (ls : Array Slot), lv_has ls 3 [(0, .ref (ad (15 * k))), (1, .int x1), (2, .int x2)] → f3_passTick_59 n x1 x2 v0 v2 = some t → W p l e rm3_passTick s m args below meth c H locs 0 0 (MQ below (va_Qv (fun (_ : Unit) => True) (fun _ t9 => cB D Y ad (s1 (s1 μ (k + 20) t.2) k t.1) t9) (cA ad s.heap.size)) args s 0 0 (cA ad s.heap.size)) (F0 m 59 ls []) := by
  obtain ⟨⟨hx, hb, hml, hown, hts⟩, hr, hlk, hK⟩ := id X
  intro n
  induction n with
  | zero =>
    intro x1 x2 v0 v2 H locs hH ls hl hf
    cases hf
  | succ n ih =>
    intro x1 x2 v0 v2 H locs hH ls hl hf
    replace hf : (if (v0 162) ≤ x2 then (some (v0, v2)) else (if (x1 &&& (1 <<< (x2 &&& 31))) = 0 then (gd x2 8 (Option.bind (f0_coolDown_0 ((Int32.toNatClampNeg x2)) v0) (fun t4 => f3_passTick_84 (f3_passTick_59 n) x1 x2 t4 v2))) else (f3_passTick_84 (f3_passTick_59 n) x1 x2 v0 v2))) = some t := hf
    refine lv_iload_n hx hb dX3_passTick_59 rfl (lv_at hl 2 rfl) ?_
    refine lv_aload_n hx hb dX3_passTick_60 rfl (lv_at hl 0 rfl) ?_
    refine cr_gSt X hk s1_k hH.1 (i := 6) (v := .int (v0 162)) (by decide) gfX3_44 rfl dX3_passTick_61 ?_
    refine lv_icmp_ge (tgt := 113) hx hb dX3_passTick_64 (by decide) (fun c1 => ?_) (fun c1 => ?_)
    · have hf := it_t c1 hf
      obtain rfl := so_i hf
      exact cr_vw X hH rfl dX3_passTick_113
    · have hf := it_f c1 hf
      refine lv_iload_n hx hb dX3_passTick_67 rfl (lv_at hl 1 rfl) ?_
      refine lv_iconst (v := 1) hx hb dX3_passTick_68 (by decide) ?_
      refine lv_iload_n hx hb dX3_passTick_69 rfl (lv_at hl 2 rfl) ?_
      refine lv_ishl hx hb dX3_passTick_70 ?_
      refine lv_iand hx hb dX3_passTick_71 ?_
      refine lv_if_ne (tgt := 84) hx hb dX3_passTick_72 (by decide) (fun c2 => ?_) (fun c2 => ?_)
      · have hf := it_f c2 hf
        exact w3_passTick_84 X hI hk (K59 := (f3_passTick_59 n)) ih hH (lv_sub hl [0, 1, 2] rfl) hf
      · have hf := it_t c2 hf
        refine lv_aload_n hx hb dX3_passTick_75 rfl (lv_at hl 0 rfl) ?_
        refine cr_gSt X hk s1_k hH.1 (i := 4) (v := .ref (ad (15 * k + 5))) (by decide) gfX3_26 rfl dX3_passTick_76 ?_
        refine lv_iload_n hx hb dX3_passTick_79 rfl (lv_at hl 2 rfl) ?_
        obtain ⟨hi3, hf⟩ := gd_o hf
        refine cr_cars X hk hH.1 hi3 dX3_passTick_80 ?_
        obtain ⟨t4, ht4, hf⟩ := bd_o hf
        refine k0_coolDown X hI hk (vin_lt hi3) hH hl.1 qX3_107 ⟨Nat.le_of_ble_eq_true rfl, Nat.le_of_ble_eq_true rfl⟩ ht4 (Nat.le_of_ble_eq_true rfl) dX3_passTick_81 ⟨Nat.zero_le _, Nat.zero_le _⟩ (fun H locs hH => ?_)
        exact w3_passTick_84 X hI hk (K59 := (f3_passTick_59 n)) ih hH (lv_sub hl [0, 1, 2] rfl) hf
def f3_passTick_51 (K22 : Int32 → Int32 → (Nat → Int32) → (Nat → Int32) → (Option ((Nat → Int32) × (Nat → Int32)))) (x1 : Int32) (x2 : Int32) (v0 : Nat → Int32) (v2 : Nat → Int32) : Option ((Nat → Int32) × (Nat → Int32)) := K22 x1 (x2 + 1) v0 v2
set_option maxRecDepth 100000 in
set_option maxHeartbeats 4000000 in
theorem w3_passTick_51 {p : Program} {l : Launch} {e : Env} {s : State} {m : MethodId} {args : Array Value} {below : List Frame} {meth : Method} {c : Code} {D : va_G} {Y : cYt} {ad : Nat → Nat} {μ : Nat → Nat → Int32} {k : Nat} {v0 : Nat → Int32} {v2 : Nat → Int32} (X : cX D Y p s m args meth c cX3_passTick 3 RX3 none) (hI : cInj ad) (hk : k < 10)  {x1 : Int32} {x2 : Int32} {t : (Nat → Int32) × (Nat → Int32)} {K22 : Int32 → Int32 → (Nat → Int32) → (Nat → Int32) → (Option ((Nat → Int32) × (Nat → Int32)))} (hK22 : ∀ (x1 : Int32) (x2 : Int32) (v0 : Nat → Int32) (v2 : Nat → Int32) (H : Heap) (locs : List Loc), cH D Y ad (s1 (s1 μ (k + 20) v2) k v0) s H locs → ∀ (ls : Array Slot), lv_has ls 3 [(0, .ref (ad (15 * k))), (1, .int x1), (2, .int x2)] → K22 x1 x2 v0 v2 = some t → W p l e rm3_passTick s m args below meth c H locs 0 0 (MQ below (va_Qv (fun (_ : Unit) => True) (fun _ t9 => cB D Y ad (s1 (s1 μ (k + 20) t.2) k t.1) t9) (cA ad s.heap.size)) args s 0 0 (cA ad s.heap.size)) (F0 m 22 ls []))  {H : Heap} {locs : List Loc} (hH : cH D Y ad (s1 (s1 μ (k + 20) v2) k v0) s H locs) {ls : Array Slot} (hl : lv_has ls 3 [(0, .ref (ad (15 * k))), (1, .int x1), (2, .int x2)]) (hf : f3_passTick_51 K22 x1 x2 v0 v2 = some t) : W p l e rm3_passTick s m args below meth c H locs 0 0 (MQ below (va_Qv (fun (_ : Unit) => True) (fun _ t9 => cB D Y ad (s1 (s1 μ (k + 20) t.2) k t.1) t9) (cA ad s.heap.size)) args s 0 0 (cA ad s.heap.size)) (F0 m 51 ls []) := by
  obtain ⟨⟨hx, hb, hml, hown, hts⟩, hr, hlk, hK⟩ := id X
  replace hf : (K22 x1 (x2 + 1) v0 v2) = some t := hf
  refine lv_iinc (v := x2 + 1) (lv' := [(2, .int (x2 + 1)), (0, .ref (ad (15 * k))), (1, .int x1)]) hx hb dX3_passTick_51 hl (k := 2) rfl rfl (by decide) rfl (fun ls hl => ?_)
  refine lv_goto (tgt := 22) hx hb dX3_passTick_54 (by decide) ?_
  exact hK22 _ _ _ _ _ _ hH _ (lv_sub hl [1, 2, 0] rfl) hf
def f3_passTick_22 : Nat → Int32 → Int32 → (Nat → Int32) → (Nat → Int32) → Option ((Nat → Int32) × (Nat → Int32))
  | 0, _, _, _, _ => none
  | n + 1, x1, x2, v0, v2 => if 8 ≤ x2 then (f3_passTick_59 fu x1 0 v0 v2) else (gd x2 8 (Option.bind (f3_hasCar_0 v0 (v2 (Int32.toNatClampNeg x2))) (fun t3 => if t3 = 0 then (f3_passTick_51 (f3_passTick_22 n) x1 x2 v0 v2) else (gd x2 8 (Option.bind (f3_moveCar_0 (v2 (Int32.toNatClampNeg x2)) v0) (fun t6 => f3_passTick_51 (f3_passTick_22 n) x1 x2 t6 v2))))))
set_option maxRecDepth 100000 in
set_option maxHeartbeats 4000000 in
theorem w3_passTick_22 {p : Program} {l : Launch} {e : Env} {s : State} {m : MethodId} {args : Array Value} {below : List Frame} {meth : Method} {c : Code} {D : va_G} {Y : cYt} {ad : Nat → Nat} {μ : Nat → Nat → Int32} {k : Nat} (X : cX D Y p s m args meth c cX3_passTick 3 RX3 none) (hI : cInj ad) (hk : k < 10)  {t : (Nat → Int32) × (Nat → Int32)} :
    ∀ (n : Nat) (x1 : Int32) (x2 : Int32) (v0 : Nat → Int32) (v2 : Nat → Int32) (H : Heap) (locs : List Loc), cH D Y ad (s1 (s1 μ (k + 20) v2) k v0) s H locs → ∀ (ls : Array Slot), lv_has ls 3 [(0, .ref (ad (15 * k))), (1, .int x1), (2, .int x2)] → f3_passTick_22 n x1 x2 v0 v2 = some t → W p l e rm3_passTick s m args below meth c H locs 0 0 (MQ below (va_Qv (fun (_ : Unit) => True) (fun _ t9 => cB D Y ad (s1 (s1 μ (k + 20) t.2) k t.1) t9) (cA ad s.heap.size)) args s 0 0 (cA ad s.heap.size)) (F0 m 22 ls []) := by
  obtain ⟨⟨hx, hb, hml, hown, hts⟩, hr, hlk, hK⟩ := id X
  intro n
  induction n with
  | zero =>
    intro x1 x2 v0 v2 H locs hH ls hl hf
    cases hf
  | succ n ih =>
    intro x1 x2 v0 v2 H locs hH ls hl hf
    replace hf : (if 8 ≤ x2 then (f3_passTick_59 fu x1 0 v0 v2) else (gd x2 8 (Option.bind (f3_hasCar_0 v0 (v2 (Int32.toNatClampNeg x2))) (fun t3 => if t3 = 0 then (f3_passTick_51 (f3_passTick_22 n) x1 x2 v0 v2) else (gd x2 8 (Option.bind (f3_moveCar_0 (v2 (Int32.toNatClampNeg x2)) v0) (fun t6 => f3_passTick_51 (f3_passTick_22 n) x1 x2 t6 v2))))))) = some t := hf
    refine lv_iload_n hx hb dX3_passTick_22 rfl (lv_at hl 2 rfl) ?_
    refine lv_bipush (v := 8) hx hb dX3_passTick_23 (by decide) ?_
    refine lv_icmp_ge (tgt := 57) hx hb dX3_passTick_25 (by decide) (fun c1 => ?_) (fun c1 => ?_)
    · have hf := it_t c1 hf
      refine lv_iconst (v := 0) hx hb dX3_passTick_57 (by decide) ?_
      refine lv_istore_n (lv' := [(2, .int 0), (0, .ref (ad (15 * k))), (1, .int x1)]) hx hb dX3_passTick_58 rfl hl (by decide) rfl (fun ls hl => ?_)
      exact w3_passTick_59 X hI hk _ _ _ _ _ _ _ hH _ (lv_sub hl [1, 2, 0] rfl) hf
    · have hf := it_f c1 hf
      refine lv_aload_n hx hb dX3_passTick_28 rfl (lv_at hl 0 rfl) ?_
      refine lv_aload_n hx hb dX3_passTick_29 rfl (lv_at hl 0 rfl) ?_
      refine cr_gSt X hk s1_k hH.1 (i := 5) (v := .ref (ad (15 * k + 6))) (by decide) gfX3_30 rfl dX3_passTick_30 ?_
      refine lv_iload_n hx hb dX3_passTick_33 rfl (lv_at hl 2 rfl) ?_
      obtain ⟨hi2, hf⟩ := gd_o hf
      refine cr_ld6 X hk ((s1_n (by omega)).trans s1_k) hH.1 hi2 dX3_passTick_34 ?_
      obtain ⟨t3, ht3, hf⟩ := bd_o hf
      refine k3_hasCar X hk s1_k hH.1 hl.1 qX3_63 ⟨Nat.le_of_ble_eq_true rfl, Nat.le_of_ble_eq_true rfl⟩ ht3 (Nat.le_of_ble_eq_true rfl) dX3_passTick_35 ⟨Nat.zero_le _, Nat.zero_le _⟩ ?_
      refine lv_if_eq (tgt := 51) hx hb dX3_passTick_38 (by decide) (fun c4 => ?_) (fun c4 => ?_)
      · have hf := it_t c4 hf
        exact w3_passTick_51 X hI hk (K22 := (f3_passTick_22 n)) ih hH (lv_sub hl [0, 1, 2] rfl) hf
      · have hf := it_f c4 hf
        refine lv_aload_n hx hb dX3_passTick_41 rfl (lv_at hl 0 rfl) ?_
        refine lv_aload_n hx hb dX3_passTick_42 rfl (lv_at hl 0 rfl) ?_
        refine cr_gSt X hk s1_k hH.1 (i := 5) (v := .ref (ad (15 * k + 6))) (by decide) gfX3_30 rfl dX3_passTick_43 ?_
        refine lv_iload_n hx hb dX3_passTick_46 rfl (lv_at hl 2 rfl) ?_
        obtain ⟨hi5, hf⟩ := gd_o hf
        refine cr_ld6 X hk ((s1_n (by omega)).trans s1_k) hH.1 hi5 dX3_passTick_47 ?_
        obtain ⟨t6, ht6, hf⟩ := bd_o hf
        refine k3_moveCar X hI hk hH hl.1 qX3_103 ⟨Nat.le_of_ble_eq_true rfl, Nat.le_of_ble_eq_true rfl⟩ ht6 (Nat.le_of_ble_eq_true rfl) dX3_passTick_48 ⟨Nat.zero_le _, Nat.zero_le _⟩ (fun H locs hH => ?_)
        exact w3_passTick_51 X hI hk (K22 := (f3_passTick_22 n)) ih hH (lv_sub hl [0, 1, 2] rfl) hf
def f3_passTick_0 (v0 : Nat → Int32) (v2 : Nat → Int32) : Option ((Nat → Int32) × (Nat → Int32)) := Option.bind (f3_carsInState_0 (upd v0 163 ((v0 163) + 1)) 1) (fun t1 => Option.bind (f3_lineUp_0 (upd v0 163 ((v0 163) + 1)) v2) (fun t2 => f3_passTick_22 fu t1 0 (upd v0 163 ((v0 163) + 1)) t2))
set_option maxRecDepth 100000 in
set_option maxHeartbeats 4000000 in
theorem w3_passTick_0 {p : Program} {l : Launch} {e : Env} {s : State} {m : MethodId} {args : Array Value} {below : List Frame} {meth : Method} {c : Code} {D : va_G} {Y : cYt} {ad : Nat → Nat} {μ : Nat → Nat → Int32} {k : Nat} {v0 : Nat → Int32} {v2 : Nat → Int32} (X : cX D Y p s m args meth c cX3_passTick 3 RX3 none) (hI : cInj ad) (hk : k < 10)  {t : (Nat → Int32) × (Nat → Int32)}  {H : Heap} {locs : List Loc} (hH : cH D Y ad (s1 (s1 μ (k + 20) v2) k v0) s H locs) {ls : Array Slot} (hl : lv_has ls 3 [(0, .ref (ad (15 * k)))]) (hf : f3_passTick_0 v0 v2 = some t) : W p l e rm3_passTick s m args below meth c H locs 0 0 (MQ below (va_Qv (fun (_ : Unit) => True) (fun _ t9 => cB D Y ad (s1 (s1 μ (k + 20) t.2) k t.1) t9) (cA ad s.heap.size)) args s 0 0 (cA ad s.heap.size)) (F0 m 0 ls []) := by
  obtain ⟨⟨hx, hb, hml, hown, hts⟩, hr, hlk, hK⟩ := id X
  replace hf : (Option.bind (f3_carsInState_0 (upd v0 163 ((v0 163) + 1)) 1) (fun t1 => Option.bind (f3_lineUp_0 (upd v0 163 ((v0 163) + 1)) v2) (fun t2 => f3_passTick_22 fu t1 0 (upd v0 163 ((v0 163) + 1)) t2))) = some t := hf
  refine lv_aload_n hx hb dX3_passTick_0 rfl (lv_at hl 0 rfl) ?_
  refine lv_dup hx hb dX3_passTick_1 rfl ?_
  refine cr_gSt X hk s1_k hH.1 (i := 7) (v := .int (v0 163)) (by decide) gfX3_48 rfl dX3_passTick_2 ?_
  refine lv_iconst (v := 1) hx hb dX3_passTick_5 (by decide) ?_
  refine lv_iadd hx hb dX3_passTick_6 ?_
  refine cv_pSt X hI hk hH 7 (by decide) gfX3_48 dX3_passTick_7 (fun H locs hH => ?_)
  refine lv_aload_n hx hb dX3_passTick_10 rfl (lv_at hl 0 rfl) ?_
  refine lv_iconst (v := 1) hx hb dX3_passTick_11 (by decide) ?_
  obtain ⟨t1, ht1, hf⟩ := bd_o hf
  refine k3_carsInState X hk s1_k hH.1 hl.1 qX3_97 ⟨Nat.le_of_ble_eq_true rfl, Nat.le_of_ble_eq_true rfl⟩ ht1 (Nat.le_of_ble_eq_true rfl) dX3_passTick_12 ⟨Nat.zero_le _, Nat.zero_le _⟩ ?_
  refine lv_istore_n (lv' := [(1, .int t1), (0, .ref (ad (15 * k)))]) hx hb dX3_passTick_15 rfl hl (by decide) rfl (fun ls hl => ?_)
  refine lv_aload_n hx hb dX3_passTick_16 rfl (lv_at hl 1 rfl) ?_
  obtain ⟨t2, ht2, hf⟩ := bd_o hf
  refine k3_lineUp X hI hk hH hl.1 qX3_100 ⟨Nat.le_of_ble_eq_true rfl, Nat.le_of_ble_eq_true rfl⟩ ht2 (Nat.le_of_ble_eq_true rfl) dX3_passTick_17 ⟨Nat.zero_le _, Nat.zero_le _⟩ (fun H locs hH => ?_)
  refine lv_iconst (v := 0) hx hb dX3_passTick_20 (by decide) ?_
  refine lv_istore_n (lv' := [(2, .int 0), (1, .int t1), (0, .ref (ad (15 * k)))]) hx hb dX3_passTick_21 rfl hl (by decide) rfl (fun ls hl => ?_)
  exact w3_passTick_22 X hI hk _ _ _ _ _ _ _ hH _ (lv_sub hl [2, 1, 0] rfl) hf
set_option maxRecDepth 100000 in
set_option maxHeartbeats 4000000 in
theorem c3_passTick (l : Launch) {D : va_G} {Y : cYt} {ad : Nat → Nat} {μ : Nat → Nat → Int32} {k : Nat} (hk : k < 10) (hI : cInj ad) (sz : Nat) {t : (Nat → Int32) × (Nat → Int32)} (hf : f3_passTick_0 (μ k) (μ (k + 20)) = some t) : Met l yX3_passTick uX3_passTick rm3_passTick (va_Pc [.ref (ad (15 * k))] (fun U => U.heap.size = sz ∧ cB D Y ad μ U)) (va_Qv (fun (_ : Unit) => True) (fun _ t9 => cB D Y ad (s1 (s1 μ (k + 20) t.2) k t.1) t9) (cA ad sz)) 0 0 (cA ad sz) := by
  refine Met.ofW (cc := cX3_passTick) (maxL := 3) (ret := none) (by decide) rfl ?_
  intro p e s m args below meth c s₁ B hml hv
  obtain ⟨rfl, hsz, hP, hK⟩ := hv
  subst hsz
  have X : cX D Y p s m ([.ref (ad (15 * k))] : List Value).toArray meth c cX3_passTick 3 RX3 none := ⟨⟨B.exec, B.bytes, hml, findClass_of_methodNamed B.named, fun w h => atoms_spec (ws := uX3_passTick) B.pre w (List.mem_cons_of_mem _ h)⟩, B.returns, B.notSynchronized, hK⟩
  have hl := lv_entry ([.ref (ad (15 * k))]) (n := 3) (Nat.le_of_ble_eq_true rfl)
  rw [lg_entry_eq]
  generalize (lg_sl ([.ref (ad (15 * k))]) ++ List.replicate (3 - (lg_sl ([.ref (ad (15 * k))])).length) Slot.unset).toArray = ls at hl ⊢
  have hl : lv_has ls 3 [(0, .ref (ad (15 * k)))] := hl
  exact w3_passTick_0 X hI hk (cH_in2 hk ⟨hP, va_S.rf⟩) (lv_sub hl [0] rfl) hf
set_option maxRecDepth 100000 in
set_option maxHeartbeats 4000000 in
theorem km3_passTick {p : Program} {l : Launch} {e : Env} {R : Room} {s : State} {m : MethodId} {args : Array Value} {below : List Frame} {meth : Method} {c : Code} {cc : ByteArray} {nL : Nat} {own : String} {ret : Option FieldType} {D : va_G} {Y : cYt} {ad : Nat → Nat} {μ : Nat → Nat → Int32} {H : Heap} {locs : List Loc} {cells slots : Nat} {Q : State → Prop} {pc : Nat} {ls : Array Slot} {rest : List Value} (X : cX D Y p s m args meth c cc nL own ret) {k : Nat} (hI : cInj ad) (hk : k < 10) (hH : cH D Y ad μ s H locs) (hls : ls.size = nL) {index : Nat} (hG : GoodIn gw (wsV own index RX3 yX3_passTick uX3_passTick)) (hR : rm3_passTick.frames + 1 ≤ R.frames ∧ 8 + (3 + 11) + rm3_passTick.locals ≤ R.locals) {t : (Nat → Int32) × (Nat → Int32)} (hf : f3_passTick_0 (μ k) (μ (k + 20)) = some t) (hrest : (rest.map fun v => v.category).sum ≤ 8) (hdg : decode cc pc = .ok (.invokevirtual index, 3)) (hc : cells ≤ R.cells ∧ slots ≤ R.slots) (kk : ∀ (H1 : Heap) (locs1 : List Loc), cH D Y ad (s1 (s1 μ (k + 20) t.2) k t.1) s H1 locs1 → W p l e R s m args below meth c H1 locs1 cells slots Q (F0 m (pc + 3) ls (rest))) : W p l e R s m args below meth c H locs cells slots Q (F0 m pc ls (.ref (ad (15 * k)) :: rest)) := by
  have hA : ∀ q, cA ad H.size q → cA ad s.heap.size q := fun q h => h.elim Or.inl (fun h => Or.inr (Nat.le_trans hH.2.1 h))
  refine va_callv (va_runV (As := []) (rest := rest) X.1 (c3_passTick l hk hI H.size hf) (cwV 0 X.1.2.2.2.2 hG rfl rfl rfl (by decide +kernel) hR) ⟨cBs_bl, va_recv X.2.2.2 hH.1 (ci := 3) (q0 := 15 * k) rfl (cw_ate (by omega) ((cw_st (r := 0) hk (by omega)).trans rfl)), fun U hU hW => ⟨rfl, by rw [hU], by rw [hU]; exact hH.1, va_K.moved hW.alike X.2.2.2⟩⟩ rfl rfl hls rfl (lv_room hrest) hdg hc) hH.2 (fun q _ h => hA q h) hA (fun u t9 H1 locs1 ht hvm hw hB hz1 hk1 hS => ?_)
  exact kk H1 locs1 ⟨by rw [← ht]; exact hB.1, hS⟩
set_option maxRecDepth 100000 in
set_option maxHeartbeats 4000000 in
theorem k3_passTick {p : Program} {l : Launch} {e : Env} {R : Room} {s : State} {m : MethodId} {args : Array Value} {below : List Frame} {meth : Method} {c : Code} {cc : ByteArray} {nL : Nat} {own : String} {ret : Option FieldType} {D : va_G} {Y : cYt} {ad : Nat → Nat} {μ : Nat → Nat → Int32} {H : Heap} {locs : List Loc} {cells slots : Nat} {Q : State → Prop} {pc : Nat} {ls : Array Slot} {rest : List Value} (X : cX D Y p s m args meth c cc nL own ret) {k : Nat} {v0 : Nat → Int32} {v2 : Nat → Int32} (hI : cInj ad) (hk : k < 10) (hH : cH D Y ad (s1 (s1 μ (k + 20) v2) k v0) s H locs) (hls : ls.size = nL) {index : Nat} (hG : GoodIn gw (wsV own index RX3 yX3_passTick uX3_passTick)) (hR : rm3_passTick.frames + 1 ≤ R.frames ∧ 8 + (3 + 11) + rm3_passTick.locals ≤ R.locals) {t : (Nat → Int32) × (Nat → Int32)} (hf : f3_passTick_0 v0 v2 = some t) (hrest : (rest.map fun v => v.category).sum ≤ 8) (hdg : decode cc pc = .ok (.invokevirtual index, 3)) (hc : cells ≤ R.cells ∧ slots ≤ R.slots) (kk : ∀ (H1 : Heap) (locs1 : List Loc), cH D Y ad (s1 (s1 μ (k + 20) t.2) k t.1) s H1 locs1 → W p l e R s m args below meth c H1 locs1 cells slots Q (F0 m (pc + 3) ls (rest))) : W p l e R s m args below meth c H locs cells slots Q (F0 m pc ls (.ref (ad (15 * k)) :: rest)) := by
  have e0 : (s1 (s1 μ (k + 20) v2) k v0) k = v0 := s1_k
  have e2 : (s1 (s1 μ (k + 20) v2) k v0) (k + 20) = v2 := (s1_n (by omega)).trans s1_k
  have hf2 : f3_passTick_0 ((s1 (s1 μ (k + 20) v2) k v0) k) ((s1 (s1 μ (k + 20) v2) k v0) (k + 20)) = some t := by rw [e0, e2]; exact hf
  exact km3_passTick (μ := (s1 (s1 μ (k + 20) v2) k v0)) X hI hk hH hls hG hR hf2 hrest hdg hc (fun H1 locs1 h => kk H1 locs1 (by rw [s1_mv] at h; exact h))
/-! OreRailway$State.passTicks(I)V -/
def rm3_passTicks : Room := { frames := 4, cells := 0, slots := 0, locals := 93 }
def f3_passTicks_2 : Nat → Int32 → Int32 → (Nat → Int32) → (Nat → Int32) → Option ((Nat → Int32) × (Nat → Int32))
  | 0, _, _, _, _ => none
  | n + 1, x1, x2, v0, v2 => if x1 ≤ x2 then (some (v0, v2)) else (Option.bind (f3_passTick_0 v0 v2) (fun t2 => (f3_passTicks_2 n) x1 (x2 + 1) t2.1 t2.2))
set_option maxRecDepth 100000 in
set_option maxHeartbeats 4000000 in
theorem w3_passTicks_2 {p : Program} {l : Launch} {e : Env} {s : State} {m : MethodId} {args : Array Value} {below : List Frame} {meth : Method} {c : Code} {D : va_G} {Y : cYt} {ad : Nat → Nat} {μ : Nat → Nat → Int32} {k : Nat} (X : cX D Y p s m args meth c cX3_passTicks 3 RX3 none) (hI : cInj ad) (hk : k < 10)  {t : (Nat → Int32) × (Nat → Int32)} :
    ∀ (n : Nat) (x1 : Int32) (x2 : Int32) (v0 : Nat → Int32) (v2 : Nat → Int32) (H : Heap) (locs : List Loc), cH D Y ad (s1 (s1 μ (k + 20) v2) k v0) s H locs → ∀ (ls : Array Slot), lv_has ls 3 [(0, .ref (ad (15 * k))), (1, .int x1), (2, .int x2)] → f3_passTicks_2 n x1 x2 v0 v2 = some t → W p l e rm3_passTicks s m args below meth c H locs 0 0 (MQ below (va_Qv (fun (_ : Unit) => True) (fun _ t9 => cB D Y ad (s1 (s1 μ (k + 20) t.2) k t.1) t9) (cA ad s.heap.size)) args s 0 0 (cA ad s.heap.size)) (F0 m 2 ls []) := by
  obtain ⟨⟨hx, hb, hml, hown, hts⟩, hr, hlk, hK⟩ := id X
  intro n
  induction n with
  | zero =>
    intro x1 x2 v0 v2 H locs hH ls hl hf
    cases hf
  | succ n ih =>
    intro x1 x2 v0 v2 H locs hH ls hl hf
    replace hf : (if x1 ≤ x2 then (some (v0, v2)) else (Option.bind (f3_passTick_0 v0 v2) (fun t2 => (f3_passTicks_2 n) x1 (x2 + 1) t2.1 t2.2))) = some t := hf
    refine lv_iload_n hx hb dX3_passTicks_2 rfl (lv_at hl 2 rfl) ?_
    refine lv_iload_n hx hb dX3_passTicks_3 rfl (lv_at hl 1 rfl) ?_
    refine lv_icmp_ge (tgt := 17) hx hb dX3_passTicks_4 (by decide) (fun c1 => ?_) (fun c1 => ?_)
    · have hf := it_t c1 hf
      obtain rfl := so_i hf
      exact cr_vw X hH rfl dX3_passTicks_17
    · have hf := it_f c1 hf
      refine lv_aload_n hx hb dX3_passTicks_7 rfl (lv_at hl 0 rfl) ?_
      obtain ⟨t2, ht2, hf⟩ := bd_o hf
      refine k3_passTick X hI hk hH hl.1 qX3_94 ⟨Nat.le_of_ble_eq_true rfl, Nat.le_of_ble_eq_true rfl⟩ ht2 (Nat.le_of_ble_eq_true rfl) dX3_passTicks_8 ⟨Nat.zero_le _, Nat.zero_le _⟩ (fun H locs hH => ?_)
      refine lv_iinc (v := x2 + 1) (lv' := [(2, .int (x2 + 1)), (0, .ref (ad (15 * k))), (1, .int x1)]) hx hb dX3_passTicks_11 hl (k := 2) rfl rfl (by decide) rfl (fun ls hl => ?_)
      refine lv_goto (tgt := 2) hx hb dX3_passTicks_14 (by decide) ?_
      exact ih _ _ _ _ _ _ hH _ (lv_sub hl [1, 2, 0] rfl) hf
def f3_passTicks_0 (x1 : Int32) (v0 : Nat → Int32) (v2 : Nat → Int32) : Option ((Nat → Int32) × (Nat → Int32)) := f3_passTicks_2 fu x1 0 v0 v2
set_option maxRecDepth 100000 in
set_option maxHeartbeats 4000000 in
theorem w3_passTicks_0 {p : Program} {l : Launch} {e : Env} {s : State} {m : MethodId} {args : Array Value} {below : List Frame} {meth : Method} {c : Code} {D : va_G} {Y : cYt} {ad : Nat → Nat} {μ : Nat → Nat → Int32} {k : Nat} {v0 : Nat → Int32} {v2 : Nat → Int32} (X : cX D Y p s m args meth c cX3_passTicks 3 RX3 none) (hI : cInj ad) (hk : k < 10)  {x1 : Int32} {t : (Nat → Int32) × (Nat → Int32)}  {H : Heap} {locs : List Loc} (hH : cH D Y ad (s1 (s1 μ (k + 20) v2) k v0) s H locs) {ls : Array Slot} (hl : lv_has ls 3 [(0, .ref (ad (15 * k))), (1, .int x1)]) (hf : f3_passTicks_0 x1 v0 v2 = some t) : W p l e rm3_passTicks s m args below meth c H locs 0 0 (MQ below (va_Qv (fun (_ : Unit) => True) (fun _ t9 => cB D Y ad (s1 (s1 μ (k + 20) t.2) k t.1) t9) (cA ad s.heap.size)) args s 0 0 (cA ad s.heap.size)) (F0 m 0 ls []) := by
  obtain ⟨⟨hx, hb, hml, hown, hts⟩, hr, hlk, hK⟩ := id X
  replace hf : (f3_passTicks_2 fu x1 0 v0 v2) = some t := hf
  refine lv_iconst (v := 0) hx hb dX3_passTicks_0 (by decide) ?_
  refine lv_istore_n (lv' := [(2, .int 0), (0, .ref (ad (15 * k))), (1, .int x1)]) hx hb dX3_passTicks_1 rfl hl (by decide) rfl (fun ls hl => ?_)
  exact w3_passTicks_2 X hI hk _ _ _ _ _ _ _ hH _ (lv_sub hl [1, 2, 0] rfl) hf
set_option maxRecDepth 100000 in
set_option maxHeartbeats 4000000 in
theorem c3_passTicks (l : Launch) {D : va_G} {Y : cYt} {ad : Nat → Nat} {μ : Nat → Nat → Int32} {k : Nat} (hk : k < 10) (hI : cInj ad) (sz : Nat) (x1 : Int32) {t : (Nat → Int32) × (Nat → Int32)} (hf : f3_passTicks_0 x1 (μ k) (μ (k + 20)) = some t) : Met l yX3_passTicks uX3_passTicks rm3_passTicks (va_Pc [.ref (ad (15 * k)), .int x1] (fun U => U.heap.size = sz ∧ cB D Y ad μ U)) (va_Qv (fun (_ : Unit) => True) (fun _ t9 => cB D Y ad (s1 (s1 μ (k + 20) t.2) k t.1) t9) (cA ad sz)) 0 0 (cA ad sz) := by
  refine Met.ofW (cc := cX3_passTicks) (maxL := 3) (ret := none) (by decide) rfl ?_
  intro p e s m args below meth c s₁ B hml hv
  obtain ⟨rfl, hsz, hP, hK⟩ := hv
  subst hsz
  have X : cX D Y p s m ([.ref (ad (15 * k)), .int x1] : List Value).toArray meth c cX3_passTicks 3 RX3 none := ⟨⟨B.exec, B.bytes, hml, findClass_of_methodNamed B.named, fun w h => atoms_spec (ws := uX3_passTicks) B.pre w (List.mem_cons_of_mem _ h)⟩, B.returns, B.notSynchronized, hK⟩
  have hl := lv_entry ([.ref (ad (15 * k)), .int x1]) (n := 3) (Nat.le_of_ble_eq_true rfl)
  rw [lg_entry_eq]
  generalize (lg_sl ([.ref (ad (15 * k)), .int x1]) ++ List.replicate (3 - (lg_sl ([.ref (ad (15 * k)), .int x1])).length) Slot.unset).toArray = ls at hl ⊢
  have hl : lv_has ls 3 [(0, .ref (ad (15 * k))), (1, .int x1)] := hl
  exact w3_passTicks_0 X hI hk (cH_in2 hk ⟨hP, va_S.rf⟩) (lv_sub hl [0, 1] rfl) hf
set_option maxRecDepth 100000 in
set_option maxHeartbeats 4000000 in
theorem km3_passTicks {p : Program} {l : Launch} {e : Env} {R : Room} {s : State} {m : MethodId} {args : Array Value} {below : List Frame} {meth : Method} {c : Code} {cc : ByteArray} {nL : Nat} {own : String} {ret : Option FieldType} {D : va_G} {Y : cYt} {ad : Nat → Nat} {μ : Nat → Nat → Int32} {H : Heap} {locs : List Loc} {cells slots : Nat} {Q : State → Prop} {pc : Nat} {ls : Array Slot} {rest : List Value} (X : cX D Y p s m args meth c cc nL own ret) {k : Nat} (hI : cInj ad) (hk : k < 10) (hH : cH D Y ad μ s H locs) (hls : ls.size = nL) {index : Nat} (hG : GoodIn gw (wsV own index RX3 yX3_passTicks uX3_passTicks)) (hR : rm3_passTicks.frames + 1 ≤ R.frames ∧ 8 + (3 + 11) + rm3_passTicks.locals ≤ R.locals) {x1 : Int32} {t : (Nat → Int32) × (Nat → Int32)} (hf : f3_passTicks_0 x1 (μ k) (μ (k + 20)) = some t) (hrest : (rest.map fun v => v.category).sum ≤ 8) (hdg : decode cc pc = .ok (.invokevirtual index, 3)) (hc : cells ≤ R.cells ∧ slots ≤ R.slots) (kk : ∀ (H1 : Heap) (locs1 : List Loc), cH D Y ad (s1 (s1 μ (k + 20) t.2) k t.1) s H1 locs1 → W p l e R s m args below meth c H1 locs1 cells slots Q (F0 m (pc + 3) ls (rest))) : W p l e R s m args below meth c H locs cells slots Q (F0 m pc ls (.int x1 :: .ref (ad (15 * k)) :: rest)) := by
  have hA : ∀ q, cA ad H.size q → cA ad s.heap.size q := fun q h => h.elim Or.inl (fun h => Or.inr (Nat.le_trans hH.2.1 h))
  refine va_callv (va_runV (As := [.int x1]) (rest := rest) X.1 (c3_passTicks l hk hI H.size x1 hf) (cwV 1 X.1.2.2.2.2 hG rfl rfl rfl (by decide +kernel) hR) ⟨cBs_bl, va_recv X.2.2.2 hH.1 (ci := 3) (q0 := 15 * k) rfl (cw_ate (by omega) ((cw_st (r := 0) hk (by omega)).trans rfl)), fun U hU hW => ⟨rfl, by rw [hU], by rw [hU]; exact hH.1, va_K.moved hW.alike X.2.2.2⟩⟩ rfl rfl hls rfl (lv_room hrest) hdg hc) hH.2 (fun q _ h => hA q h) hA (fun u t9 H1 locs1 ht hvm hw hB hz1 hk1 hS => ?_)
  exact kk H1 locs1 ⟨by rw [← ht]; exact hB.1, hS⟩
set_option maxRecDepth 100000 in
set_option maxHeartbeats 4000000 in
theorem k3_passTicks {p : Program} {l : Launch} {e : Env} {R : Room} {s : State} {m : MethodId} {args : Array Value} {below : List Frame} {meth : Method} {c : Code} {cc : ByteArray} {nL : Nat} {own : String} {ret : Option FieldType} {D : va_G} {Y : cYt} {ad : Nat → Nat} {μ : Nat → Nat → Int32} {H : Heap} {locs : List Loc} {cells slots : Nat} {Q : State → Prop} {pc : Nat} {ls : Array Slot} {rest : List Value} (X : cX D Y p s m args meth c cc nL own ret) {k : Nat} {v0 : Nat → Int32} {v2 : Nat → Int32} (hI : cInj ad) (hk : k < 10) (hH : cH D Y ad (s1 (s1 μ (k + 20) v2) k v0) s H locs) (hls : ls.size = nL) {index : Nat} (hG : GoodIn gw (wsV own index RX3 yX3_passTicks uX3_passTicks)) (hR : rm3_passTicks.frames + 1 ≤ R.frames ∧ 8 + (3 + 11) + rm3_passTicks.locals ≤ R.locals) {x1 : Int32} {t : (Nat → Int32) × (Nat → Int32)} (hf : f3_passTicks_0 x1 v0 v2 = some t) (hrest : (rest.map fun v => v.category).sum ≤ 8) (hdg : decode cc pc = .ok (.invokevirtual index, 3)) (hc : cells ≤ R.cells ∧ slots ≤ R.slots) (kk : ∀ (H1 : Heap) (locs1 : List Loc), cH D Y ad (s1 (s1 μ (k + 20) t.2) k t.1) s H1 locs1 → W p l e R s m args below meth c H1 locs1 cells slots Q (F0 m (pc + 3) ls (rest))) : W p l e R s m args below meth c H locs cells slots Q (F0 m pc ls (.int x1 :: .ref (ad (15 * k)) :: rest)) := by
  have e0 : (s1 (s1 μ (k + 20) v2) k v0) k = v0 := s1_k
  have e2 : (s1 (s1 μ (k + 20) v2) k v0) (k + 20) = v2 := (s1_n (by omega)).trans s1_k
  have hf2 : f3_passTicks_0 x1 ((s1 (s1 μ (k + 20) v2) k v0) k) ((s1 (s1 μ (k + 20) v2) k v0) (k + 20)) = some t := by rw [e0, e2]; exact hf
  exact km3_passTicks (μ := (s1 (s1 μ (k + 20) v2) k v0)) X hI hk hH hls hG hR hf2 hrest hdg hc (fun H1 locs1 h => kk H1 locs1 (by rw [s1_mv] at h; exact h))
/-! OreRailway$State.switchCount()I -/
def rm3_switchCount : Room := { frames := 0, cells := 0, slots := 0, locals := 0 }
def f3_switchCount_22 (v0 : Nat → Int32) (K4 : Int32 → Int32 → Option (Int32)) (x1 : Int32) (x2 : Int32) : Option (Int32) := K4 x1 (x2 + 1)
set_option maxRecDepth 100000 in
set_option maxHeartbeats 4000000 in
theorem w3_switchCount_22 {p : Program} {l : Launch} {e : Env} {s : State} {m : MethodId} {args : Array Value} {below : List Frame} {meth : Method} {c : Code} {D : va_G} {Y : cYt} {ad : Nat → Nat} {μ : Nat → Nat → Int32} {k : Nat} {v0 : Nat → Int32} (X : cX D Y p s m args meth c cX3_switchCount 3 RX3 (some .int)) (hk : k < 10) (hM : μ k = v0) (hP : va_P D vwCl (cwW Y ad μ) s.heap) {x1 : Int32} {x2 : Int32} {t : Int32} {K4 : Int32 → Int32 → Option (Int32)} (hK4 : ∀ (x1 : Int32) (x2 : Int32) (ls : Array Slot), lv_has ls 3 [(0, .ref (ad (15 * k))), (1, .int x1), (2, .int x2)] → K4 x1 x2 = some t → W p l e rm3_switchCount s m args below meth c s.heap [] 0 0 (MQ below (QcRead t) args s 0 0 (fun _ => False)) (F0 m 4 ls []))  {ls : Array Slot} (hl : lv_has ls 3 [(0, .ref (ad (15 * k))), (1, .int x1), (2, .int x2)]) (hf : f3_switchCount_22 v0 K4 x1 x2 = some t) : W p l e rm3_switchCount s m args below meth c s.heap [] 0 0 (MQ below (QcRead t) args s 0 0 (fun _ => False)) (F0 m 22 ls []) := by
  obtain ⟨⟨hx, hb, hml, hown, hts⟩, hr, hlk, hK⟩ := id X
  replace hf : (K4 x1 (x2 + 1)) = some t := hf
  refine lv_iinc (v := x2 + 1) (lv' := [(2, .int (x2 + 1)), (0, .ref (ad (15 * k))), (1, .int x1)]) hx hb dX3_switchCount_22 hl (k := 2) rfl rfl (by decide) rfl (fun ls hl => ?_)
  refine lv_goto (tgt := 4) hx hb dX3_switchCount_25 (by decide) ?_
  exact hK4 _ _ _ (lv_sub hl [1, 2, 0] rfl) hf
def f3_switchCount_4 (v0 : Nat → Int32) : Nat → Int32 → Int32 → Option (Int32)
  | 0, _, _ => none
  | n + 1, x1, x2 => if 30 ≤ x2 then (some x1) else (gd x2 30 (if (v0 (30 + Int32.toNatClampNeg x2)) ≤ 0 then (f3_switchCount_22 v0 (f3_switchCount_4 v0 n) x1 x2) else (f3_switchCount_22 v0 (f3_switchCount_4 v0 n) (x1 + 1) x2)))
set_option maxRecDepth 100000 in
set_option maxHeartbeats 4000000 in
theorem w3_switchCount_4 {p : Program} {l : Launch} {e : Env} {s : State} {m : MethodId} {args : Array Value} {below : List Frame} {meth : Method} {c : Code} {D : va_G} {Y : cYt} {ad : Nat → Nat} {μ : Nat → Nat → Int32} {k : Nat} {v0 : Nat → Int32} (X : cX D Y p s m args meth c cX3_switchCount 3 RX3 (some .int)) (hk : k < 10) (hM : μ k = v0) (hP : va_P D vwCl (cwW Y ad μ) s.heap) {t : Int32} :
    ∀ (n : Nat) (x1 : Int32) (x2 : Int32) (ls : Array Slot), lv_has ls 3 [(0, .ref (ad (15 * k))), (1, .int x1), (2, .int x2)] → f3_switchCount_4 v0 n x1 x2 = some t → W p l e rm3_switchCount s m args below meth c s.heap [] 0 0 (MQ below (QcRead t) args s 0 0 (fun _ => False)) (F0 m 4 ls []) := by
  obtain ⟨⟨hx, hb, hml, hown, hts⟩, hr, hlk, hK⟩ := id X
  intro n
  induction n with
  | zero =>
    intro x1 x2 ls hl hf
    cases hf
  | succ n ih =>
    intro x1 x2 ls hl hf
    replace hf : (if 30 ≤ x2 then (some x1) else (gd x2 30 (if (v0 (30 + Int32.toNatClampNeg x2)) ≤ 0 then (f3_switchCount_22 v0 (f3_switchCount_4 v0 n) x1 x2) else (f3_switchCount_22 v0 (f3_switchCount_4 v0 n) (x1 + 1) x2)))) = some t := hf
    refine lv_iload_n hx hb dX3_switchCount_4 rfl (lv_at hl 2 rfl) ?_
    refine lv_bipush (v := 30) hx hb dX3_switchCount_5 (by decide) ?_
    refine lv_icmp_ge (tgt := 28) hx hb dX3_switchCount_7 (by decide) (fun c1 => ?_) (fun c1 => ?_)
    · have hf := it_t c1 hf
      refine lv_iload_n hx hb dX3_switchCount_28 rfl (lv_at hl 1 rfl) ?_
      obtain rfl := so_i hf
      exact rd_i hx hb hr hlk dX3_switchCount_29
    · have hf := it_f c1 hf
      refine lv_aload_n hx hb dX3_switchCount_10 rfl (lv_at hl 0 rfl) ?_
      refine cr_gSt X hk hM hP (i := 1) (v := .ref (ad (15 * k + 2))) (by decide) gfX3_15 rfl dX3_switchCount_11 ?_
      refine lv_iload_n hx hb dX3_switchCount_14 rfl (lv_at hl 2 rfl) ?_
      obtain ⟨hi2, hf⟩ := gd_o hf
      refine cr_ld2 X hk hM hP hi2 dX3_switchCount_15 ?_
      refine lv_if_le (tgt := 22) hx hb dX3_switchCount_16 (by decide) (fun c3 => ?_) (fun c3 => ?_)
      · have hf := it_t c3 hf
        exact w3_switchCount_22 X hk hM hP (K4 := (f3_switchCount_4 v0 n)) ih  (lv_sub hl [0, 1, 2] rfl) hf
      · have hf := it_f c3 hf
        refine lv_iinc (v := x1 + 1) (lv' := [(1, .int (x1 + 1)), (0, .ref (ad (15 * k))), (2, .int x2)]) hx hb dX3_switchCount_19 hl (k := 1) rfl rfl (by decide) rfl (fun ls hl => ?_)
        exact w3_switchCount_22 X hk hM hP (K4 := (f3_switchCount_4 v0 n)) ih  (lv_sub hl [1, 0, 2] rfl) hf
def f3_switchCount_0 (v0 : Nat → Int32) : Option (Int32) := f3_switchCount_4 v0 fu 0 0
set_option maxRecDepth 100000 in
set_option maxHeartbeats 4000000 in
theorem w3_switchCount_0 {p : Program} {l : Launch} {e : Env} {s : State} {m : MethodId} {args : Array Value} {below : List Frame} {meth : Method} {c : Code} {D : va_G} {Y : cYt} {ad : Nat → Nat} {μ : Nat → Nat → Int32} {k : Nat} {v0 : Nat → Int32} (X : cX D Y p s m args meth c cX3_switchCount 3 RX3 (some .int)) (hk : k < 10) (hM : μ k = v0) (hP : va_P D vwCl (cwW Y ad μ) s.heap) {t : Int32}  {ls : Array Slot} (hl : lv_has ls 3 [(0, .ref (ad (15 * k)))]) (hf : f3_switchCount_0 v0  = some t) : W p l e rm3_switchCount s m args below meth c s.heap [] 0 0 (MQ below (QcRead t) args s 0 0 (fun _ => False)) (F0 m 0 ls []) := by
  obtain ⟨⟨hx, hb, hml, hown, hts⟩, hr, hlk, hK⟩ := id X
  replace hf : (f3_switchCount_4 v0 fu 0 0) = some t := hf
  refine lv_iconst (v := 0) hx hb dX3_switchCount_0 (by decide) ?_
  refine lv_istore_n (lv' := [(1, .int 0), (0, .ref (ad (15 * k)))]) hx hb dX3_switchCount_1 rfl hl (by decide) rfl (fun ls hl => ?_)
  refine lv_iconst (v := 0) hx hb dX3_switchCount_2 (by decide) ?_
  refine lv_istore_n (lv' := [(2, .int 0), (1, .int 0), (0, .ref (ad (15 * k)))]) hx hb dX3_switchCount_3 rfl hl (by decide) rfl (fun ls hl => ?_)
  exact w3_switchCount_4 X hk hM hP _ _ _ _ (lv_sub hl [2, 1, 0] rfl) hf
set_option maxRecDepth 100000 in
set_option maxHeartbeats 4000000 in
theorem c3_switchCount (l : Launch) {D : va_G} {Y : cYt} {ad : Nat → Nat} {μ : Nat → Nat → Int32} {k : Nat} (hk : k < 10) {t : Int32} (hf : f3_switchCount_0 (μ k) = some t) : Met l yX3_switchCount uX3_switchCount rm3_switchCount (va_Pc [.ref (ad (15 * k))] (cB D Y ad μ)) (QcRead t) 0 0 (fun _ => False) := by
  refine Met.ofW (cc := cX3_switchCount) (maxL := 3) (ret := (some .int)) (by decide) rfl ?_
  intro p e s m args below meth c s₁ B hml hv
  obtain ⟨rfl, hP, hK⟩ := hv
  have X : cX D Y p s m ([.ref (ad (15 * k))] : List Value).toArray meth c cX3_switchCount 3 RX3 (some .int) := ⟨⟨B.exec, B.bytes, hml, findClass_of_methodNamed B.named, fun w h => atoms_spec (ws := uX3_switchCount) B.pre w (List.mem_cons_of_mem _ h)⟩, B.returns, B.notSynchronized, hK⟩
  have hl := lv_entry ([.ref (ad (15 * k))]) (n := 3) (Nat.le_of_ble_eq_true rfl)
  rw [lg_entry_eq]
  generalize (lg_sl ([.ref (ad (15 * k))]) ++ List.replicate (3 - (lg_sl ([.ref (ad (15 * k))])).length) Slot.unset).toArray = ls at hl ⊢
  have hl : lv_has ls 3 [(0, .ref (ad (15 * k)))] := hl
  exact w3_switchCount_0 X hk rfl hP (lv_sub hl [0] rfl) hf
set_option maxRecDepth 100000 in
set_option maxHeartbeats 4000000 in
theorem k3_switchCount {p : Program} {l : Launch} {e : Env} {R : Room} {s : State} {m : MethodId} {args : Array Value} {below : List Frame} {meth : Method} {c : Code} {cc : ByteArray} {nL : Nat} {own : String} {ret : Option FieldType} {D : va_G} {Y : cYt} {ad : Nat → Nat} {μ : Nat → Nat → Int32} {H : Heap} {locs : List Loc} {cells slots : Nat} {Q : State → Prop} {pc : Nat} {ls : Array Slot} {rest : List Value} (X : cX D Y p s m args meth c cc nL own ret) {k : Nat} {v0 : Nat → Int32} (hk : k < 10) (hM : μ k = v0) (hP : va_P D vwCl (cwW Y ad μ) H) (hls : ls.size = nL) {index : Nat} (hG : GoodIn gw (wsV own index RX3 yX3_switchCount uX3_switchCount)) (hR : rm3_switchCount.frames + 1 ≤ R.frames ∧ 8 + (3 + 11) + rm3_switchCount.locals ≤ R.locals) {t : Int32} (hf : f3_switchCount_0 v0 = some t) (hrest : (rest.map fun v => v.category).sum ≤ 8) (hdg : decode cc pc = .ok (.invokevirtual index, 3)) (hc : cells ≤ R.cells ∧ slots ≤ R.slots) (kk : W p l e R s m args below meth c H locs cells slots Q (F0 m (pc + 3) ls (.int t :: rest))) : W p l e R s m args below meth c H locs cells slots Q (F0 m pc ls (.ref (ad (15 * k)) :: rest)) := by
  subst hM
  exact W.callR (W.runV (As := []) X.1 (c3_switchCount l hk hf) (cwV 0 X.1.2.2.2.2 hG rfl rfl rfl (by decide +kernel) hR) ⟨cB_bl, va_recv X.2.2.2 hP (ci := 3) (q0 := 15 * k) rfl (cw_ate (by omega) ((cw_st (r := 0) hk (by omega)).trans rfl)), fun U hU hW => ⟨rfl, by rw [hU]; exact hP, va_K.moved hW.alike X.2.2.2⟩⟩ rfl rfl hls rfl (lv_room hrest) hdg hc) kk
