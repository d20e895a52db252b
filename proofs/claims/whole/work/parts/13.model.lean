/-! OreRailwayModel.isWhole()Z -/
def rm5_isWhole : Room := { frames := 4, cells := 0, slots := 0, locals := 88 }
def f5_isWhole_82 (v6 : Nat → Int32) (y0 : Int32) (v0 : Nat → Int32) : Option (Int32 × (Nat → Int32)) := gz y0 (some (y0, v0))
set_option maxRecDepth 100000 in
set_option maxHeartbeats 4000000 in
theorem w5_isWhole_82 {p : Program} {l : Launch} {e : Env} {s : State} {m : MethodId} {args : Array Value} {below : List Frame} {meth : Method} {c : Code} {D : va_G} {cI cZ : ClassId} {ad : Nat → Nat} {v0 v1 v2 v3 v4 v5 v6 v7 v8 : Nat → Int32} (X : mX D cI cZ p s m args meth c cX5_isWhole 2 (some .boolean)) (hI : mInj ad) {y0 : Int32} {t : Int32 × (Nat → Int32)}  {H : Heap} {locs : List Loc} (hH : mH D cI cZ ad v0 v1 v2 v3 v4 v5 v6 v7 v8 s H locs) {ls : Array Slot} (hl : lv_has ls 2 []) (hf : f5_isWhole_82 v6 y0 v0 = some t) : W p l e rm5_isWhole s m args below meth c H locs 0 0 (MQ below (va_Qi (fun (r9 : Int32) (_ : Unit) => r9 = t.1) (fun _ t9 => mB D cI cZ ad t.2 v1 v2 v3 v4 v5 v6 v7 v8 t9) (mA ad s.heap.size)) args s 0 0 (mA ad s.heap.size)) (F0 m 82 ls [.int y0]) := by
  obtain ⟨⟨hx, hb, hml, hown, hts⟩, hr, hlk, hK⟩ := id X
  replace hf : (gz y0 (some (y0, v0))) = some t := hf
  obtain ⟨hz, hf⟩ := gz_o hf
  obtain rfl := so_i hf
  exact mr_zw X hH rfl (nz_z hz) dX5_isWhole_82
def f5_isWhole_66 (v6 : Nat → Int32) (K12 : Int32 → (Nat → Int32) → (Option (Int32 × (Nat → Int32)))) (y0 : Int32) (v0 : Nat → Int32) : Option (Int32 × (Nat → Int32)) := K12 y0 v0
set_option maxRecDepth 100000 in
set_option maxHeartbeats 4000000 in
theorem w5_isWhole_66 {p : Program} {l : Launch} {e : Env} {s : State} {m : MethodId} {args : Array Value} {below : List Frame} {meth : Method} {c : Code} {D : va_G} {cI cZ : ClassId} {ad : Nat → Nat} {v0 v1 v2 v3 v4 v5 v6 v7 v8 : Nat → Int32} (X : mX D cI cZ p s m args meth c cX5_isWhole 2 (some .boolean)) (hI : mInj ad) {y0 : Int32} {t : Int32 × (Nat → Int32)} {K12 : Int32 → (Nat → Int32) → (Option (Int32 × (Nat → Int32)))} (hK12 : ∀ (x1 : Int32) (v0 : Nat → Int32) (H : Heap) (locs : List Loc), mH D cI cZ ad v0 v1 v2 v3 v4 v5 v6 v7 v8 s H locs → ∀ (ls : Array Slot), lv_has ls 2 [(0, .ref (ad 0)), (1, .int x1)] → K12 x1 v0 = some t → W p l e rm5_isWhole s m args below meth c H locs 0 0 (MQ below (va_Qi (fun (r9 : Int32) (_ : Unit) => r9 = t.1) (fun _ t9 => mB D cI cZ ad t.2 v1 v2 v3 v4 v5 v6 v7 v8 t9) (mA ad s.heap.size)) args s 0 0 (mA ad s.heap.size)) (F0 m 12 ls []))  {H : Heap} {locs : List Loc} (hH : mH D cI cZ ad v0 v1 v2 v3 v4 v5 v6 v7 v8 s H locs) {ls : Array Slot} (hl : lv_has ls 2 [(0, .ref (ad 0))]) (hf : f5_isWhole_66 v6 K12 y0 v0 = some t) : W p l e rm5_isWhole s m args below meth c H locs 0 0 (MQ below (va_Qi (fun (r9 : Int32) (_ : Unit) => r9 = t.1) (fun _ t9 => mB D cI cZ ad t.2 v1 v2 v3 v4 v5 v6 v7 v8 t9) (mA ad s.heap.size)) args s 0 0 (mA ad s.heap.size)) (F0 m 66 ls [.int y0]) := by
  obtain ⟨⟨hx, hb, hml, hown, hts⟩, hr, hlk, hK⟩ := id X
  replace hf : (K12 y0 v0) = some t := hf
  refine lv_istore_n (lv' := [(1, .int y0), (0, .ref (ad 0))]) hx hb dX5_isWhole_66 rfl hl (by decide) rfl (fun ls hl => ?_)
  refine lv_goto (tgt := 12) hx hb dX5_isWhole_67 (by decide) ?_
  exact hK12 _ _ _ _ hH _ (lv_sub hl [1, 0] rfl) hf
def f5_isWhole_43 (v6 : Nat → Int32) (K12 : Int32 → (Nat → Int32) → (Option (Int32 × (Nat → Int32)))) (y0 : Int32) (v0 : Nat → Int32) : Option (Int32 × (Nat → Int32)) := if y0 = 0 then (K12 y0 v0) else (Option.bind (f5_sign_0 v6 59 v0) (fun t2 => if (t2 12) = 0 then (f5_isWhole_66 v6 K12 1 t2) else (f5_isWhole_66 v6 K12 0 t2)))
set_option maxRecDepth 100000 in
set_option maxHeartbeats 4000000 in
theorem w5_isWhole_43 {p : Program} {l : Launch} {e : Env} {s : State} {m : MethodId} {args : Array Value} {below : List Frame} {meth : Method} {c : Code} {D : va_G} {cI cZ : ClassId} {ad : Nat → Nat} {v0 v1 v2 v3 v4 v5 v6 v7 v8 : Nat → Int32} (X : mX D cI cZ p s m args meth c cX5_isWhole 2 (some .boolean)) (hI : mInj ad) {y0 : Int32} {t : Int32 × (Nat → Int32)} {K12 : Int32 → (Nat → Int32) → (Option (Int32 × (Nat → Int32)))} (hK12 : ∀ (x1 : Int32) (v0 : Nat → Int32) (H : Heap) (locs : List Loc), mH D cI cZ ad v0 v1 v2 v3 v4 v5 v6 v7 v8 s H locs → ∀ (ls : Array Slot), lv_has ls 2 [(0, .ref (ad 0)), (1, .int x1)] → K12 x1 v0 = some t → W p l e rm5_isWhole s m args below meth c H locs 0 0 (MQ below (va_Qi (fun (r9 : Int32) (_ : Unit) => r9 = t.1) (fun _ t9 => mB D cI cZ ad t.2 v1 v2 v3 v4 v5 v6 v7 v8 t9) (mA ad s.heap.size)) args s 0 0 (mA ad s.heap.size)) (F0 m 12 ls []))  {H : Heap} {locs : List Loc} (hH : mH D cI cZ ad v0 v1 v2 v3 v4 v5 v6 v7 v8 s H locs) {ls : Array Slot} (hl : lv_has ls 2 [(0, .ref (ad 0))]) (hf : f5_isWhole_43 v6 K12 y0 v0 = some t) : W p l e rm5_isWhole s m args below meth c H locs 0 0 (MQ below (va_Qi (fun (r9 : Int32) (_ : Unit) => r9 = t.1) (fun _ t9 => mB D cI cZ ad t.2 v1 v2 v3 v4 v5 v6 v7 v8 t9) (mA ad s.heap.size)) args s 0 0 (mA ad s.heap.size)) (F0 m 43 ls [.int y0]) := by
  obtain ⟨⟨hx, hb, hml, hown, hts⟩, hr, hlk, hK⟩ := id X
  replace hf : (if y0 = 0 then (K12 y0 v0) else (Option.bind (f5_sign_0 v6 59 v0) (fun t2 => if (t2 12) = 0 then (f5_isWhole_66 v6 K12 1 t2) else (f5_isWhole_66 v6 K12 0 t2)))) = some t := hf
  refine lv_istore_n (lv' := [(1, .int y0), (0, .ref (ad 0))]) hx hb dX5_isWhole_43 rfl hl (by decide) rfl (fun ls hl => ?_)
  refine lv_iload_n hx hb dX5_isWhole_44 rfl (lv_at hl 0 rfl) ?_
  refine lv_if_eq (tgt := 12) hx hb dX5_isWhole_45 (by decide) (fun c1 => ?_) (fun c1 => ?_)
  · have hf := it_t c1 hf
    exact hK12 _ _ _ _ hH _ (lv_sub hl [1, 0] rfl) hf
  · have hf := it_f c1 hf
    refine lv_aload_n hx hb dX5_isWhole_48 rfl (lv_at hl 1 rfl) ?_
    refine lv_bipush (v := 59) hx hb dX5_isWhole_49 (by decide) ?_
    obtain ⟨t2, ht2, hf⟩ := bd_o hf
    refine k5_sign X hI hH hl.1 qX5_166 ⟨Nat.le_of_ble_eq_true rfl, Nat.le_of_ble_eq_true rfl⟩ ht2 (Nat.le_of_ble_eq_true rfl) dX5_isWhole_51 ⟨Nat.zero_le _, Nat.zero_le _⟩ (fun H locs hH => ?_)
    refine lv_aload_n hx hb dX5_isWhole_54 rfl (lv_at hl 1 rfl) ?_
    refine mr_get X hH.1 (k := 12) (v := .int (t2 12)) (by decide) gfX5_147 rfl dX5_isWhole_55 ?_
    refine lv_if_ne (tgt := 65) hx hb dX5_isWhole_58 (by decide) (fun c3 => ?_) (fun c3 => ?_)
    · have hf := it_f c3 hf
      refine lv_iconst (v := 0) hx hb dX5_isWhole_65 (by decide) ?_
      exact w5_isWhole_66 X hI (K12 := K12) hK12 hH (lv_sub hl [1] rfl) hf
    · have hf := it_t c3 hf
      refine lv_iconst (v := 1) hx hb dX5_isWhole_61 (by decide) ?_
      refine lv_goto (tgt := 66) hx hb dX5_isWhole_62 (by decide) ?_
      exact w5_isWhole_66 X hI (K12 := K12) hK12 hH (lv_sub hl [1] rfl) hf
def f5_isWhole_42 (v6 : Nat → Int32) (K12 : Int32 → (Nat → Int32) → (Option (Int32 × (Nat → Int32)))) (v0 : Nat → Int32) : Option (Int32 × (Nat → Int32)) := f5_isWhole_43 v6 K12 0 v0
set_option maxRecDepth 100000 in
set_option maxHeartbeats 4000000 in
theorem w5_isWhole_42 {p : Program} {l : Launch} {e : Env} {s : State} {m : MethodId} {args : Array Value} {below : List Frame} {meth : Method} {c : Code} {D : va_G} {cI cZ : ClassId} {ad : Nat → Nat} {v0 v1 v2 v3 v4 v5 v6 v7 v8 : Nat → Int32} (X : mX D cI cZ p s m args meth c cX5_isWhole 2 (some .boolean)) (hI : mInj ad) {t : Int32 × (Nat → Int32)} {K12 : Int32 → (Nat → Int32) → (Option (Int32 × (Nat → Int32)))} (hK12 : ∀ (x1 : Int32) (v0 : Nat → Int32) (H : Heap) (locs : List Loc), mH D cI cZ ad v0 v1 v2 v3 v4 v5 v6 v7 v8 s H locs → ∀ (ls : Array Slot), lv_has ls 2 [(0, .ref (ad 0)), (1, .int x1)] → K12 x1 v0 = some t → W p l e rm5_isWhole s m args below meth c H locs 0 0 (MQ below (va_Qi (fun (r9 : Int32) (_ : Unit) => r9 = t.1) (fun _ t9 => mB D cI cZ ad t.2 v1 v2 v3 v4 v5 v6 v7 v8 t9) (mA ad s.heap.size)) args s 0 0 (mA ad s.heap.size)) (F0 m 12 ls []))  {H : Heap} {locs : List Loc} (hH : mH D cI cZ ad v0 v1 v2 v3 v4 v5 v6 v7 v8 s H locs) {ls : Array Slot} (hl : lv_has ls 2 [(0, .ref (ad 0))]) (hf : f5_isWhole_42 v6 K12 v0 = some t) : W p l e rm5_isWhole s m args below meth c H locs 0 0 (MQ below (va_Qi (fun (r9 : Int32) (_ : Unit) => r9 = t.1) (fun _ t9 => mB D cI cZ ad t.2 v1 v2 v3 v4 v5 v6 v7 v8 t9) (mA ad s.heap.size)) args s 0 0 (mA ad s.heap.size)) (F0 m 42 ls []) := by
  obtain ⟨⟨hx, hb, hml, hown, hts⟩, hr, hlk, hK⟩ := id X
  replace hf : (f5_isWhole_43 v6 K12 0 v0) = some t := hf
  refine lv_iconst (v := 0) hx hb dX5_isWhole_42 (by decide) ?_
  exact w5_isWhole_43 X hI (K12 := K12) hK12 hH (lv_sub hl [0] rfl) hf
def f5_isWhole_12 (v6 : Nat → Int32) : Nat → Int32 → (Nat → Int32) → Option (Int32 × (Nat → Int32))
  | 0, _, _ => none
  | n + 1, x1, v0 => if x1 = 0 then (if (v0 12) = 0 then (f5_isWhole_82 v6 1 v0) else (f5_isWhole_82 v6 0 v0)) else (Option.bind (f5_order_0 v6 v0) (fun t3 => if (t3 12) = 0 then (if (t3 7) ≤ (t3 11) then (f5_isWhole_42 v6 (f5_isWhole_12 v6 n) t3) else (f5_isWhole_43 v6 (f5_isWhole_12 v6 n) 1 t3)) else (f5_isWhole_42 v6 (f5_isWhole_12 v6 n) t3)))
set_option maxRecDepth 100000 in
set_option maxHeartbeats 4000000 in
theorem w5_isWhole_12 {p : Program} {l : Launch} {e : Env} {s : State} {m : MethodId} {args : Array Value} {below : List Frame} {meth : Method} {c : Code} {D : va_G} {cI cZ : ClassId} {ad : Nat → Nat} {v1 v2 v3 v4 v5 v6 v7 v8 : Nat → Int32} (X : mX D cI cZ p s m args meth c cX5_isWhole 2 (some .boolean)) (hI : mInj ad) {t : Int32 × (Nat → Int32)} :
    ∀ (n : Nat) (x1 : Int32) (v0 : Nat → Int32) (H : Heap) (locs : List Loc), mH D cI cZ ad v0 v1 v2 v3 v4 v5 v6 v7 v8 s H locs → ∀ (ls : Array Slot), lv_has ls 2 [(0, .ref (ad 0)), (1, .int x1)] → f5_isWhole_12 v6 n x1 v0 = some t → W p l e rm5_isWhole s m args below meth c H locs 0 0 (MQ below (va_Qi (fun (r9 : Int32) (_ : Unit) => r9 = t.1) (fun _ t9 => mB D cI cZ ad t.2 v1 v2 v3 v4 v5 v6 v7 v8 t9) (mA ad s.heap.size)) args s 0 0 (mA ad s.heap.size)) (F0 m 12 ls []) := by
  obtain ⟨⟨hx, hb, hml, hown, hts⟩, hr, hlk, hK⟩ := id X
  intro n
  induction n with
  | zero =>
    intro x1 v0 H locs hH ls hl hf
    cases hf
  | succ n ih =>
    intro x1 v0 H locs hH ls hl hf
    replace hf : (if x1 = 0 then (if (v0 12) = 0 then (f5_isWhole_82 v6 1 v0) else (f5_isWhole_82 v6 0 v0)) else (Option.bind (f5_order_0 v6 v0) (fun t3 => if (t3 12) = 0 then (if (t3 7) ≤ (t3 11) then (f5_isWhole_42 v6 (f5_isWhole_12 v6 n) t3) else (f5_isWhole_43 v6 (f5_isWhole_12 v6 n) 1 t3)) else (f5_isWhole_42 v6 (f5_isWhole_12 v6 n) t3)))) = some t := hf
    refine lv_iload_n hx hb dX5_isWhole_12 rfl (lv_at hl 1 rfl) ?_
    refine lv_if_eq (tgt := 70) hx hb dX5_isWhole_13 (by decide) (fun c1 => ?_) (fun c1 => ?_)
    · have hf := it_t c1 hf
      refine lv_aload_n hx hb dX5_isWhole_70 rfl (lv_at hl 0 rfl) ?_
      refine mr_get X hH.1 (k := 12) (v := .int (v0 12)) (by decide) gfX5_147 rfl dX5_isWhole_71 ?_
      refine lv_if_ne (tgt := 81) hx hb dX5_isWhole_74 (by decide) (fun c2 => ?_) (fun c2 => ?_)
      · have hf := it_f c2 hf
        refine lv_iconst (v := 0) hx hb dX5_isWhole_81 (by decide) ?_
        exact w5_isWhole_82 X hI hH (lv_sub hl [] rfl) hf
      · have hf := it_t c2 hf
        refine lv_iconst (v := 1) hx hb dX5_isWhole_77 (by decide) ?_
        refine lv_goto (tgt := 82) hx hb dX5_isWhole_78 (by decide) ?_
        exact w5_isWhole_82 X hI hH (lv_sub hl [] rfl) hf
    · have hf := it_f c1 hf
      refine lv_aload_n hx hb dX5_isWhole_16 rfl (lv_at hl 0 rfl) ?_
      obtain ⟨t3, ht3, hf⟩ := bd_o hf
      refine k5_order X hI hH hl.1 qX5_172 ⟨Nat.le_of_ble_eq_true rfl, Nat.le_of_ble_eq_true rfl⟩ ht3 (Nat.le_of_ble_eq_true rfl) dX5_isWhole_17 ⟨Nat.zero_le _, Nat.zero_le _⟩ (fun H locs hH => ?_)
      refine lv_aload_n hx hb dX5_isWhole_20 rfl (lv_at hl 0 rfl) ?_
      refine mr_get X hH.1 (k := 12) (v := .int (t3 12)) (by decide) gfX5_147 rfl dX5_isWhole_21 ?_
      refine lv_if_ne (tgt := 42) hx hb dX5_isWhole_24 (by decide) (fun c4 => ?_) (fun c4 => ?_)
      · have hf := it_f c4 hf
        exact w5_isWhole_42 X hI (K12 := (f5_isWhole_12 v6 n)) ih hH (lv_sub hl [0] rfl) hf
      · have hf := it_t c4 hf
        refine lv_aload_n hx hb dX5_isWhole_27 rfl (lv_at hl 0 rfl) ?_
        refine mr_get X hH.1 (k := 11) (v := .int (t3 11)) (by decide) gfX5_144 rfl dX5_isWhole_28 ?_
        refine lv_aload_n hx hb dX5_isWhole_31 rfl (lv_at hl 0 rfl) ?_
        refine mr_get X hH.1 (k := 7) (v := .int (t3 7)) (by decide) gfX5_141 rfl dX5_isWhole_32 ?_
        refine lv_icmp_ge (tgt := 42) hx hb dX5_isWhole_35 (by decide) (fun c5 => ?_) (fun c5 => ?_)
        · have hf := it_t c5 hf
          exact w5_isWhole_42 X hI (K12 := (f5_isWhole_12 v6 n)) ih hH (lv_sub hl [0] rfl) hf
        · have hf := it_f c5 hf
          refine lv_iconst (v := 1) hx hb dX5_isWhole_38 (by decide) ?_
          refine lv_goto (tgt := 43) hx hb dX5_isWhole_39 (by decide) ?_
          exact w5_isWhole_43 X hI (K12 := (f5_isWhole_12 v6 n)) ih hH (lv_sub hl [0] rfl) hf
def f5_isWhole_0 (v6 : Nat → Int32) (v0 : Nat → Int32) : Option (Int32 × (Nat → Int32)) := f5_isWhole_12 v6 fu 1 (upd (upd v0 11 0) 12 0)
set_option maxRecDepth 100000 in
set_option maxHeartbeats 4000000 in
theorem w5_isWhole_0 {p : Program} {l : Launch} {e : Env} {s : State} {m : MethodId} {args : Array Value} {below : List Frame} {meth : Method} {c : Code} {D : va_G} {cI cZ : ClassId} {ad : Nat → Nat} {v0 v1 v2 v3 v4 v5 v6 v7 v8 : Nat → Int32} (X : mX D cI cZ p s m args meth c cX5_isWhole 2 (some .boolean)) (hI : mInj ad) {t : Int32 × (Nat → Int32)}  {H : Heap} {locs : List Loc} (hH : mH D cI cZ ad v0 v1 v2 v3 v4 v5 v6 v7 v8 s H locs) {ls : Array Slot} (hl : lv_has ls 2 [(0, .ref (ad 0))]) (hf : f5_isWhole_0 v6 v0 = some t) : W p l e rm5_isWhole s m args below meth c H locs 0 0 (MQ below (va_Qi (fun (r9 : Int32) (_ : Unit) => r9 = t.1) (fun _ t9 => mB D cI cZ ad t.2 v1 v2 v3 v4 v5 v6 v7 v8 t9) (mA ad s.heap.size)) args s 0 0 (mA ad s.heap.size)) (F0 m 0 ls []) := by
  obtain ⟨⟨hx, hb, hml, hown, hts⟩, hr, hlk, hK⟩ := id X
  replace hf : (f5_isWhole_12 v6 fu 1 (upd (upd v0 11 0) 12 0)) = some t := hf
  refine lv_aload_n hx hb dX5_isWhole_0 rfl (lv_at hl 0 rfl) ?_
  refine lv_iconst (v := 0) hx hb dX5_isWhole_1 (by decide) ?_
  refine mr_put X hI hH 11 (by decide) gfX5_144 rfl rfl dX5_isWhole_2 (fun H locs hH => ?_)
  refine lv_aload_n hx hb dX5_isWhole_5 rfl (lv_at hl 0 rfl) ?_
  refine lv_iconst (v := 0) hx hb dX5_isWhole_6 (by decide) ?_
  refine mr_putz X hI hH 12 (by decide) gfX5_147 rfl rfl (Or.inl rfl) dX5_isWhole_7 (fun H locs hH => ?_)
  refine lv_iconst (v := 1) hx hb dX5_isWhole_10 (by decide) ?_
  refine lv_istore_n (lv' := [(1, .int 1), (0, .ref (ad 0))]) hx hb dX5_isWhole_11 rfl hl (by decide) rfl (fun ls hl => ?_)
  exact w5_isWhole_12 X hI _ _ _ _ _ hH _ (lv_sub hl [1, 0] rfl) hf
set_option maxRecDepth 100000 in
set_option maxHeartbeats 4000000 in
theorem c5_isWhole (l : Launch) {D : va_G} {cI cZ : ClassId} {ad : Nat → Nat} {v0 v1 v2 v3 v4 v5 v6 v7 v8 : Nat → Int32} (hI : mInj ad) (sz : Nat) {t : Int32 × (Nat → Int32)} (hf : f5_isWhole_0 v6 v0 = some t) : Met l yX5_isWhole uX5_isWhole rm5_isWhole (va_Pc [.ref (ad 0)] (fun U => U.heap.size = sz ∧ mB D cI cZ ad v0 v1 v2 v3 v4 v5 v6 v7 v8 U)) (va_Qi (fun (r9 : Int32) (_ : Unit) => r9 = t.1) (fun _ t9 => mB D cI cZ ad t.2 v1 v2 v3 v4 v5 v6 v7 v8 t9) (mA ad sz)) 0 0 (mA ad sz) := by
  refine Met.ofW (cc := cX5_isWhole) (maxL := 2) (ret := (some .boolean)) (by decide) rfl ?_
  intro p e s m args below meth c s₁ B hml hv
  obtain ⟨rfl, hsz, hP, hK⟩ := hv
  subst hsz
  have X : mX D cI cZ p s m ([.ref (ad 0)] : List Value).toArray meth c cX5_isWhole 2 (some .boolean) := ⟨⟨B.exec, B.bytes, hml, findClass_of_methodNamed B.named, fun w h => atoms_spec (ws := uX5_isWhole) B.pre w (List.mem_cons_of_mem _ h)⟩, B.returns, B.notSynchronized, hK⟩
  have hl := lv_entry ([.ref (ad 0)]) (n := 2) (Nat.le_of_ble_eq_true rfl)
  rw [lg_entry_eq]
  generalize (lg_sl ([.ref (ad 0)]) ++ List.replicate (2 - (lg_sl ([.ref (ad 0)])).length) Slot.unset).toArray = ls at hl ⊢
  have hl : lv_has ls 2 [(0, .ref (ad 0))] := hl
  exact w5_isWhole_0 X hI ⟨hP, va_S.rf⟩ (lv_sub hl [0] rfl) hf
set_option maxRecDepth 100000 in
set_option maxHeartbeats 4000000 in
theorem k5_isWhole {p : Program} {l : Launch} {e : Env} {R : Room} {s : State} {m : MethodId} {args : Array Value} {below : List Frame} {meth : Method} {c : Code} {cc : ByteArray} {nL : Nat} {ret : Option FieldType} {D : va_G} {cI cZ : ClassId} {ad : Nat → Nat} {v0 v1 v2 v3 v4 v5 v6 v7 v8 : Nat → Int32} {H : Heap} {locs : List Loc} {cells slots : Nat} {Q : State → Prop} {pc : Nat} {ls : Array Slot} {rest : List Value} (X : mX D cI cZ p s m args meth c cc nL ret) (hI : mInj ad) (hH : mH D cI cZ ad v0 v1 v2 v3 v4 v5 v6 v7 v8 s H locs) (hls : ls.size = nL) {index : Nat} (hG : GoodIn gw (wsV RX5 index RX5 yX5_isWhole uX5_isWhole)) (hR : rm5_isWhole.frames + 1 ≤ R.frames ∧ 8 + (2 + 11) + rm5_isWhole.locals ≤ R.locals) {t : Int32 × (Nat → Int32)} (hf : f5_isWhole_0 v6 v0 = some t) (hrest : (rest.map fun v => v.category).sum ≤ 8) (hdg : decode cc pc = .ok (.invokevirtual index, 3)) (hc : cells ≤ R.cells ∧ slots ≤ R.slots) (kk : ∀ (H1 : Heap) (locs1 : List Loc), mH D cI cZ ad t.2 v1 v2 v3 v4 v5 v6 v7 v8 s H1 locs1 → W p l e R s m args below meth c H1 locs1 cells slots Q (F0 m (pc + 3) ls (.int t.1 :: rest))) : W p l e R s m args below meth c H locs cells slots Q (F0 m pc ls (.ref (ad 0) :: rest)) := by
  have hA : ∀ q, mA ad H.size q → mA ad s.heap.size q := fun q h => h.elim Or.inl (fun h => Or.inr (Nat.le_trans hH.2.1 h))
  refine va_calli (va_runV (As := []) (rest := rest) X.1 (c5_isWhole l hI H.size hf) (cwV 0 X.1.2.2.2.2 hG rfl rfl rfl (by decide +kernel) hR) ⟨mBs_bl, va_recv X.2.2.2 hH.1 (ci := 5) (q0 := 0) rfl rfl, fun U hU hW => ⟨rfl, by rw [hU], by rw [hU]; exact hH.1, va_K.moved hW.alike X.2.2.2⟩⟩ rfl rfl hls rfl (lv_room hrest) hdg hc) hH.2 (fun q _ h => hA q h) hA (fun r9 u t9 H1 locs1 ht hvm hw hB hz1 hk1 hS => ?_)
  subst hw
  exact kk H1 locs1 ⟨by rw [← ht]; exact hB.1, hS⟩
/-! OreRailwayModel.firstError()I -/
def rm5_firstError : Room := { frames := 5, cells := 0, slots := 0, locals := 109 }
def f5_firstError_23 (v6 : Nat → Int32) (y0 : Int32) (v0 : Nat → Int32) : Option (Int32 × (Nat → Int32)) := some (y0, v0)
set_option maxRecDepth 100000 in
set_option maxHeartbeats 4000000 in
theorem w5_firstError_23 {p : Program} {l : Launch} {e : Env} {s : State} {m : MethodId} {args : Array Value} {below : List Frame} {meth : Method} {c : Code} {D : va_G} {cI cZ : ClassId} {ad : Nat → Nat} {v0 v1 v2 v3 v4 v5 v6 v7 v8 : Nat → Int32} (X : mX D cI cZ p s m args meth c cX5_firstError 1 (some .int)) (hI : mInj ad) {y0 : Int32} {t : Int32 × (Nat → Int32)}  {H : Heap} {locs : List Loc} (hH : mH D cI cZ ad v0 v1 v2 v3 v4 v5 v6 v7 v8 s H locs) {ls : Array Slot} (hl : lv_has ls 1 []) (hf : f5_firstError_23 v6 y0 v0 = some t) : W p l e rm5_firstError s m args below meth c H locs 0 0 (MQ below (va_Qi (fun (r9 : Int32) (_ : Unit) => r9 = t.1) (fun _ t9 => mB D cI cZ ad t.2 v1 v2 v3 v4 v5 v6 v7 v8 t9) (mA ad s.heap.size)) args s 0 0 (mA ad s.heap.size)) (F0 m 23 ls [.int y0]) := by
  obtain ⟨⟨hx, hb, hml, hown, hts⟩, hr, hlk, hK⟩ := id X
  replace hf : (some (y0, v0)) = some t := hf
  obtain rfl := so_i hf
  exact mr_iw X hH rfl dX5_firstError_23
def f5_firstError_0 (v6 : Nat → Int32) (v0 : Nat → Int32) : Option (Int32 × (Nat → Int32)) := Option.bind (f5_isWhole_0 v6 (upd v0 8 0)) (fun t1 => if t1.1 = 0 then (f5_firstError_23 v6 (t1.2 11) t1.2) else (f5_firstError_23 v6 (t1.2 7) t1.2))
set_option maxRecDepth 100000 in
set_option maxHeartbeats 4000000 in
theorem w5_firstError_0 {p : Program} {l : Launch} {e : Env} {s : State} {m : MethodId} {args : Array Value} {below : List Frame} {meth : Method} {c : Code} {D : va_G} {cI cZ : ClassId} {ad : Nat → Nat} {v0 v1 v2 v3 v4 v5 v6 v7 v8 : Nat → Int32} (X : mX D cI cZ p s m args meth c cX5_firstError 1 (some .int)) (hI : mInj ad) {t : Int32 × (Nat → Int32)}  {H : Heap} {locs : List Loc} (hH : mH D cI cZ ad v0 v1 v2 v3 v4 v5 v6 v7 v8 s H locs) {ls : Array Slot} (hl : lv_has ls 1 [(0, .ref (ad 0))]) (hf : f5_firstError_0 v6 v0 = some t) : W p l e rm5_firstError s m args below meth c H locs 0 0 (MQ below (va_Qi (fun (r9 : Int32) (_ : Unit) => r9 = t.1) (fun _ t9 => mB D cI cZ ad t.2 v1 v2 v3 v4 v5 v6 v7 v8 t9) (mA ad s.heap.size)) args s 0 0 (mA ad s.heap.size)) (F0 m 0 ls []) := by
  obtain ⟨⟨hx, hb, hml, hown, hts⟩, hr, hlk, hK⟩ := id X
  replace hf : (Option.bind (f5_isWhole_0 v6 (upd v0 8 0)) (fun t1 => if t1.1 = 0 then (f5_firstError_23 v6 (t1.2 11) t1.2) else (f5_firstError_23 v6 (t1.2 7) t1.2))) = some t := hf
  refine lv_aload_n hx hb dX5_firstError_0 rfl (lv_at hl 0 rfl) ?_
  refine lv_iconst (v := 0) hx hb dX5_firstError_1 (by decide) ?_
  refine mr_put X hI hH 8 (by decide) gfX5_35 rfl rfl dX5_firstError_2 (fun H locs hH => ?_)
  refine lv_aload_n hx hb dX5_firstError_5 rfl (lv_at hl 0 rfl) ?_
  obtain ⟨t1, ht1, hf⟩ := bd_o hf
  refine k5_isWhole X hI hH hl.1 qX5_175 ⟨Nat.le_of_ble_eq_true rfl, Nat.le_of_ble_eq_true rfl⟩ ht1 (Nat.le_of_ble_eq_true rfl) dX5_firstError_6 ⟨Nat.zero_le _, Nat.zero_le _⟩ (fun H locs hH => ?_)
  refine lv_if_eq (tgt := 19) hx hb dX5_firstError_9 (by decide) (fun c2 => ?_) (fun c2 => ?_)
  · have hf := it_t c2 hf
    refine lv_aload_n hx hb dX5_firstError_19 rfl (lv_at hl 0 rfl) ?_
    refine mr_get X hH.1 (k := 11) (v := .int (t1.2 11)) (by decide) gfX5_144 rfl dX5_firstError_20 ?_
    exact w5_firstError_23 X hI hH (lv_sub hl [] rfl) hf
  · have hf := it_f c2 hf
    refine lv_aload_n hx hb dX5_firstError_12 rfl (lv_at hl 0 rfl) ?_
    refine mr_get X hH.1 (k := 7) (v := .int (t1.2 7)) (by decide) gfX5_141 rfl dX5_firstError_13 ?_
    refine lv_goto (tgt := 23) hx hb dX5_firstError_16 (by decide) ?_
    exact w5_firstError_23 X hI hH (lv_sub hl [] rfl) hf
set_option maxRecDepth 100000 in
set_option maxHeartbeats 4000000 in
theorem c5_firstError (l : Launch) {D : va_G} {cI cZ : ClassId} {ad : Nat → Nat} {v0 v1 v2 v3 v4 v5 v6 v7 v8 : Nat → Int32} (hI : mInj ad) (sz : Nat) {t : Int32 × (Nat → Int32)} (hf : f5_firstError_0 v6 v0 = some t) : Met l yX5_firstError uX5_firstError rm5_firstError (va_Pc [.ref (ad 0)] (fun U => U.heap.size = sz ∧ mB D cI cZ ad v0 v1 v2 v3 v4 v5 v6 v7 v8 U)) (va_Qi (fun (r9 : Int32) (_ : Unit) => r9 = t.1) (fun _ t9 => mB D cI cZ ad t.2 v1 v2 v3 v4 v5 v6 v7 v8 t9) (mA ad sz)) 0 0 (mA ad sz) := by
  refine Met.ofW (cc := cX5_firstError) (maxL := 1) (ret := (some .int)) (by decide) rfl ?_
  intro p e s m args below meth c s₁ B hml hv
  obtain ⟨rfl, hsz, hP, hK⟩ := hv
  subst hsz
  have X : mX D cI cZ p s m ([.ref (ad 0)] : List Value).toArray meth c cX5_firstError 1 (some .int) := ⟨⟨B.exec, B.bytes, hml, findClass_of_methodNamed B.named, fun w h => atoms_spec (ws := uX5_firstError) B.pre w (List.mem_cons_of_mem _ h)⟩, B.returns, B.notSynchronized, hK⟩
  have hl := lv_entry ([.ref (ad 0)]) (n := 1) (Nat.le_of_ble_eq_true rfl)
  rw [lg_entry_eq]
  generalize (lg_sl ([.ref (ad 0)]) ++ List.replicate (1 - (lg_sl ([.ref (ad 0)])).length) Slot.unset).toArray = ls at hl ⊢
  have hl : lv_has ls 1 [(0, .ref (ad 0))] := hl
  exact w5_firstError_0 X hI ⟨hP, va_S.rf⟩ (lv_sub hl [0] rfl) hf
set_option maxRecDepth 100000 in
set_option maxHeartbeats 4000000 in
theorem k5_firstError {p : Program} {l : Launch} {e : Env} {R : Room} {s : State} {m : MethodId} {args : Array Value} {below : List Frame} {meth : Method} {c : Code} {cc : ByteArray} {nL : Nat} {ret : Option FieldType} {D : va_G} {cI cZ : ClassId} {ad : Nat → Nat} {v0 v1 v2 v3 v4 v5 v6 v7 v8 : Nat → Int32} {H : Heap} {locs : List Loc} {cells slots : Nat} {Q : State → Prop} {pc : Nat} {ls : Array Slot} {rest : List Value} (X : mX D cI cZ p s m args meth c cc nL ret) (hI : mInj ad) (hH : mH D cI cZ ad v0 v1 v2 v3 v4 v5 v6 v7 v8 s H locs) (hls : ls.size = nL) {index : Nat} (hG : GoodIn gw (wsV RX5 index RX5 yX5_firstError uX5_firstError)) (hR : rm5_firstError.frames + 1 ≤ R.frames ∧ 8 + (1 + 11) + rm5_firstError.locals ≤ R.locals) {t : Int32 × (Nat → Int32)} (hf : f5_firstError_0 v6 v0 = some t) (hrest : (rest.map fun v => v.category).sum ≤ 8) (hdg : decode cc pc = .ok (.invokevirtual index, 3)) (hc : cells ≤ R.cells ∧ slots ≤ R.slots) (kk : ∀ (H1 : Heap) (locs1 : List Loc), mH D cI cZ ad t.2 v1 v2 v3 v4 v5 v6 v7 v8 s H1 locs1 → W p l e R s m args below meth c H1 locs1 cells slots Q (F0 m (pc + 3) ls (.int t.1 :: rest))) : W p l e R s m args below meth c H locs cells slots Q (F0 m pc ls (.ref (ad 0) :: rest)) := by
  have hA : ∀ q, mA ad H.size q → mA ad s.heap.size q := fun q h => h.elim Or.inl (fun h => Or.inr (Nat.le_trans hH.2.1 h))
  refine va_calli (va_runV (As := []) (rest := rest) X.1 (c5_firstError l hI H.size hf) (cwV 0 X.1.2.2.2.2 hG rfl rfl rfl (by decide +kernel) hR) ⟨mBs_bl, va_recv X.2.2.2 hH.1 (ci := 5) (q0 := 0) rfl rfl, fun U hU hW => ⟨rfl, by rw [hU], by rw [hU]; exact hH.1, va_K.moved hW.alike X.2.2.2⟩⟩ rfl rfl hls rfl (lv_room hrest) hdg hc) hH.2 (fun q _ h => hA q h) hA (fun r9 u t9 H1 locs1 ht hvm hw hB hz1 hk1 hS => ?_)
  subst hw
  exact kk H1 locs1 ⟨by rw [← ht]; exact hB.1, hS⟩
/-! OreRailwayModel.does()Z -/
def rm5_does : Room := { frames := 6, cells := 0, slots := 0, locals := 140 }
def f5_does_242 (v0 : Nat → Int32) (y0 : Int32) (v1 : Nat → Int32) (v7 : Nat → Int32) (v8 : Nat → Int32) : Option (Int32 × (Nat → Int32) × (Nat → Int32) × (Nat → Int32)) := gz y0 (some (y0, v1, v7, v8))
set_option maxRecDepth 100000 in
set_option maxHeartbeats 4000000 in
theorem w5_does_242 {p : Program} {l : Launch} {e : Env} {s : State} {m : MethodId} {args : Array Value} {below : List Frame} {meth : Method} {c : Code} {D : va_G} {cI cZ : ClassId} {ad : Nat → Nat} {v0 v1 v2 v3 v4 v5 v6 v7 v8 : Nat → Int32} (X : mX D cI cZ p s m args meth c cX5_does 8 (some .boolean)) (hI : mInj ad) {y0 : Int32} {t : Int32 × (Nat → Int32) × (Nat → Int32) × (Nat → Int32)}  {H : Heap} {locs : List Loc} (hH : mH D cI cZ ad v0 v1 v2 v3 v4 v5 v6 v7 v8 s H locs) {ls : Array Slot} (hl : lv_has ls 8 []) (hf : f5_does_242 v0 y0 v1 v7 v8 = some t) : W p l e rm5_does s m args below meth c H locs 0 0 (MQ below (va_Qi (fun (r9 : Int32) (_ : Unit) => r9 = t.1) (fun _ t9 => mB D cI cZ ad v0 t.2.1 v2 v3 v4 v5 v6 t.2.2.1 t.2.2.2 t9) (mA ad s.heap.size)) args s 0 0 (mA ad s.heap.size)) (F0 m 242 ls [.int y0]) := by
  obtain ⟨⟨hx, hb, hml, hown, hts⟩, hr, hlk, hK⟩ := id X
  replace hf : (gz y0 (some (y0, v1, v7, v8))) = some t := hf
  obtain ⟨hz, hf⟩ := gz_o hf
  obtain rfl := so_i hf
  exact mr_zw X hH rfl (nz_z hz) dX5_does_242
def f5_does_241 (v0 : Nat → Int32) (v1 : Nat → Int32) (v7 : Nat → Int32) (v8 : Nat → Int32) : Option (Int32 × (Nat → Int32) × (Nat → Int32) × (Nat → Int32)) := f5_does_242 v0 0 v1 v7 v8
set_option maxRecDepth 100000 in
set_option maxHeartbeats 4000000 in
theorem w5_does_241 {p : Program} {l : Launch} {e : Env} {s : State} {m : MethodId} {args : Array Value} {below : List Frame} {meth : Method} {c : Code} {D : va_G} {cI cZ : ClassId} {ad : Nat → Nat} {v0 v1 v2 v3 v4 v5 v6 v7 v8 : Nat → Int32} (X : mX D cI cZ p s m args meth c cX5_does 8 (some .boolean)) (hI : mInj ad) {t : Int32 × (Nat → Int32) × (Nat → Int32) × (Nat → Int32)}  {H : Heap} {locs : List Loc} (hH : mH D cI cZ ad v0 v1 v2 v3 v4 v5 v6 v7 v8 s H locs) {ls : Array Slot} (hl : lv_has ls 8 []) (hf : f5_does_241 v0 v1 v7 v8 = some t) : W p l e rm5_does s m args below meth c H locs 0 0 (MQ below (va_Qi (fun (r9 : Int32) (_ : Unit) => r9 = t.1) (fun _ t9 => mB D cI cZ ad v0 t.2.1 v2 v3 v4 v5 v6 t.2.2.1 t.2.2.2 t9) (mA ad s.heap.size)) args s 0 0 (mA ad s.heap.size)) (F0 m 241 ls []) := by
  obtain ⟨⟨hx, hb, hml, hown, hts⟩, hr, hlk, hK⟩ := id X
  replace hf : (f5_does_242 v0 0 v1 v7 v8) = some t := hf
  refine lv_iconst (v := 0) hx hb dX5_does_241 (by decide) ?_
  exact w5_does_242 X hI hH (lv_sub hl [] rfl) hf
def f5_does_210 (v0 : Nat → Int32) (x5 : Int32) (y0 : Int32) (v1 : Nat → Int32) (v7 : Nat → Int32) (v8 : Nat → Int32) : Option (Int32 × (Nat → Int32) × (Nat → Int32) × (Nat → Int32)) := gz x5 (some (x5, v1, v7, v8))
set_option maxRecDepth 100000 in
set_option maxHeartbeats 4000000 in
theorem w5_does_210 {p : Program} {l : Launch} {e : Env} {s : State} {m : MethodId} {args : Array Value} {below : List Frame} {meth : Method} {c : Code} {D : va_G} {cI cZ : ClassId} {ad : Nat → Nat} {v0 v1 v2 v3 v4 v5 v6 v7 v8 : Nat → Int32} (X : mX D cI cZ p s m args meth c cX5_does 8 (some .boolean)) (hI : mInj ad) {x5 : Int32} {y0 : Int32} {t : Int32 × (Nat → Int32) × (Nat → Int32) × (Nat → Int32)}  {H : Heap} {locs : List Loc} (hH : mH D cI cZ ad v0 v1 v2 v3 v4 v5 v6 v7 v8 s H locs) {ls : Array Slot} (hl : lv_has ls 8 [(5, .int x5)]) (hf : f5_does_210 v0 x5 y0 v1 v7 v8 = some t) : W p l e rm5_does s m args below meth c H locs 0 0 (MQ below (va_Qi (fun (r9 : Int32) (_ : Unit) => r9 = t.1) (fun _ t9 => mB D cI cZ ad v0 t.2.1 v2 v3 v4 v5 v6 t.2.2.1 t.2.2.2 t9) (mA ad s.heap.size)) args s 0 0 (mA ad s.heap.size)) (F0 m 210 ls [.int y0]) := by
  obtain ⟨⟨hx, hb, hml, hown, hts⟩, hr, hlk, hK⟩ := id X
  replace hf : (gz x5 (some (x5, v1, v7, v8))) = some t := hf
  refine lv_istore (lv' := [(6, .int y0), (5, .int x5)]) hx hb dX5_does_210 hl (by decide) rfl (fun ls hl => ?_)
  refine lv_iload hx hb dX5_does_212 (lv_at hl 1 rfl) ?_
  obtain ⟨hz, hf⟩ := gz_o hf
  obtain rfl := so_i hf
  exact mr_zw X hH rfl (nz_z hz) dX5_does_214
def f5_does_187 (v0 : Nat → Int32) (y0 : Int32) (v1 : Nat → Int32) (v7 : Nat → Int32) (v8 : Nat → Int32) : Option (Int32 × (Nat → Int32) × (Nat → Int32) × (Nat → Int32)) := if y0 = 0 then (f5_does_210 v0 y0 ((-1)) v1 v7 v8) else (Option.bind (f5_brakes_0 (v0 14) (v0 15) v1) (fun t2 => f5_does_210 v0 y0 t2.1 t2.2 v7 v8))
set_option maxRecDepth 100000 in
set_option maxHeartbeats 4000000 in
theorem w5_does_187 {p : Program} {l : Launch} {e : Env} {s : State} {m : MethodId} {args : Array Value} {below : List Frame} {meth : Method} {c : Code} {D : va_G} {cI cZ : ClassId} {ad : Nat → Nat} {v0 v1 v2 v3 v4 v5 v6 v7 v8 : Nat → Int32} (X : mX D cI cZ p s m args meth c cX5_does 8 (some .boolean)) (hI : mInj ad) {y0 : Int32} {t : Int32 × (Nat → Int32) × (Nat → Int32) × (Nat → Int32)}  {H : Heap} {locs : List Loc} (hH : mH D cI cZ ad v0 v1 v2 v3 v4 v5 v6 v7 v8 s H locs) {ls : Array Slot} (hl : lv_has ls 8 [(0, .ref (ad 0))]) (hf : f5_does_187 v0 y0 v1 v7 v8 = some t) : W p l e rm5_does s m args below meth c H locs 0 0 (MQ below (va_Qi (fun (r9 : Int32) (_ : Unit) => r9 = t.1) (fun _ t9 => mB D cI cZ ad v0 t.2.1 v2 v3 v4 v5 v6 t.2.2.1 t.2.2.2 t9) (mA ad s.heap.size)) args s 0 0 (mA ad s.heap.size)) (F0 m 187 ls [.int y0]) := by
  obtain ⟨⟨hx, hb, hml, hown, hts⟩, hr, hlk, hK⟩ := id X
  replace hf : (if y0 = 0 then (f5_does_210 v0 y0 ((-1)) v1 v7 v8) else (Option.bind (f5_brakes_0 (v0 14) (v0 15) v1) (fun t2 => f5_does_210 v0 y0 t2.1 t2.2 v7 v8))) = some t := hf
  refine lv_istore (lv' := [(5, .int y0), (0, .ref (ad 0))]) hx hb dX5_does_187 hl (by decide) rfl (fun ls hl => ?_)
  refine lv_iload hx hb dX5_does_189 (lv_at hl 0 rfl) ?_
  refine lv_if_eq (tgt := 209) hx hb dX5_does_191 (by decide) (fun c1 => ?_) (fun c1 => ?_)
  · have hf := it_t c1 hf
    refine lv_iconst (v := (-1)) hx hb dX5_does_209 (by decide) ?_
    exact w5_does_210 X hI hH (lv_sub hl [0] rfl) hf
  · have hf := it_f c1 hf
    refine lv_aload_n hx hb dX5_does_194 rfl (lv_at hl 1 rfl) ?_
    refine lv_aload_n hx hb dX5_does_195 rfl (lv_at hl 1 rfl) ?_
    refine mr_get X hH.1 (k := 14) (v := .int (v0 14)) (by decide) gfX5_163 rfl dX5_does_196 ?_
    refine lv_aload_n hx hb dX5_does_199 rfl (lv_at hl 1 rfl) ?_
    refine mr_get X hH.1 (k := 15) (v := .int (v0 15)) (by decide) gfX5_169 rfl dX5_does_200 ?_
    obtain ⟨t2, ht2, hf⟩ := bd_o hf
    refine k5_brakes X hI hH hl.1 qX5_99 ⟨Nat.le_of_ble_eq_true rfl, Nat.le_of_ble_eq_true rfl⟩ ht2 (Nat.le_of_ble_eq_true rfl) dX5_does_203 ⟨Nat.zero_le _, Nat.zero_le _⟩ (fun H locs hH => ?_)
    refine lv_goto (tgt := 210) hx hb dX5_does_206 (by decide) ?_
    exact w5_does_210 X hI hH (lv_sub hl [0] rfl) hf
def f5_does_166 (v0 : Nat → Int32) (y0 : Int32) (v1 : Nat → Int32) (v7 : Nat → Int32) (v8 : Nat → Int32) : Option (Int32 × (Nat → Int32) × (Nat → Int32) × (Nat → Int32)) := gz y0 (some (y0, v1, v7, v8))
set_option maxRecDepth 100000 in
set_option maxHeartbeats 4000000 in
theorem w5_does_166 {p : Program} {l : Launch} {e : Env} {s : State} {m : MethodId} {args : Array Value} {below : List Frame} {meth : Method} {c : Code} {D : va_G} {cI cZ : ClassId} {ad : Nat → Nat} {v0 v1 v2 v3 v4 v5 v6 v7 v8 : Nat → Int32} (X : mX D cI cZ p s m args meth c cX5_does 8 (some .boolean)) (hI : mInj ad) {y0 : Int32} {t : Int32 × (Nat → Int32) × (Nat → Int32) × (Nat → Int32)}  {H : Heap} {locs : List Loc} (hH : mH D cI cZ ad v0 v1 v2 v3 v4 v5 v6 v7 v8 s H locs) {ls : Array Slot} (hl : lv_has ls 8 []) (hf : f5_does_166 v0 y0 v1 v7 v8 = some t) : W p l e rm5_does s m args below meth c H locs 0 0 (MQ below (va_Qi (fun (r9 : Int32) (_ : Unit) => r9 = t.1) (fun _ t9 => mB D cI cZ ad v0 t.2.1 v2 v3 v4 v5 v6 t.2.2.1 t.2.2.2 t9) (mA ad s.heap.size)) args s 0 0 (mA ad s.heap.size)) (F0 m 166 ls [.int y0]) := by
  obtain ⟨⟨hx, hb, hml, hown, hts⟩, hr, hlk, hK⟩ := id X
  replace hf : (gz y0 (some (y0, v1, v7, v8))) = some t := hf
  obtain ⟨hz, hf⟩ := gz_o hf
  obtain rfl := so_i hf
  exact mr_zw X hH rfl (nz_z hz) dX5_does_166
def f5_does_165 (v0 : Nat → Int32) (v1 : Nat → Int32) (v7 : Nat → Int32) (v8 : Nat → Int32) : Option (Int32 × (Nat → Int32) × (Nat → Int32) × (Nat → Int32)) := f5_does_166 v0 0 v1 v7 v8
set_option maxRecDepth 100000 in
set_option maxHeartbeats 4000000 in
theorem w5_does_165 {p : Program} {l : Launch} {e : Env} {s : State} {m : MethodId} {args : Array Value} {below : List Frame} {meth : Method} {c : Code} {D : va_G} {cI cZ : ClassId} {ad : Nat → Nat} {v0 v1 v2 v3 v4 v5 v6 v7 v8 : Nat → Int32} (X : mX D cI cZ p s m args meth c cX5_does 8 (some .boolean)) (hI : mInj ad) {t : Int32 × (Nat → Int32) × (Nat → Int32) × (Nat → Int32)}  {H : Heap} {locs : List Loc} (hH : mH D cI cZ ad v0 v1 v2 v3 v4 v5 v6 v7 v8 s H locs) {ls : Array Slot} (hl : lv_has ls 8 []) (hf : f5_does_165 v0 v1 v7 v8 = some t) : W p l e rm5_does s m args below meth c H locs 0 0 (MQ below (va_Qi (fun (r9 : Int32) (_ : Unit) => r9 = t.1) (fun _ t9 => mB D cI cZ ad v0 t.2.1 v2 v3 v4 v5 v6 t.2.2.1 t.2.2.2 t9) (mA ad s.heap.size)) args s 0 0 (mA ad s.heap.size)) (F0 m 165 ls []) := by
  obtain ⟨⟨hx, hb, hml, hown, hts⟩, hr, hlk, hK⟩ := id X
  replace hf : (f5_does_166 v0 0 v1 v7 v8) = some t := hf
  refine lv_iconst (v := 0) hx hb dX5_does_165 (by decide) ?_
  exact w5_does_166 X hI hH (lv_sub hl [] rfl) hf
def f5_does_131 (v0 : Nat → Int32) (x3 : Int32) (y0 : Int32) (v1 : Nat → Int32) (v7 : Nat → Int32) (v8 : Nat → Int32) : Option (Int32 × (Nat → Int32) × (Nat → Int32) × (Nat → Int32)) := gz x3 (some (x3, v1, v7, v8))
set_option maxRecDepth 100000 in
set_option maxHeartbeats 4000000 in
theorem w5_does_131 {p : Program} {l : Launch} {e : Env} {s : State} {m : MethodId} {args : Array Value} {below : List Frame} {meth : Method} {c : Code} {D : va_G} {cI cZ : ClassId} {ad : Nat → Nat} {v0 v1 v2 v3 v4 v5 v6 v7 v8 : Nat → Int32} (X : mX D cI cZ p s m args meth c cX5_does 8 (some .boolean)) (hI : mInj ad) {x3 : Int32} {y0 : Int32} {t : Int32 × (Nat → Int32) × (Nat → Int32) × (Nat → Int32)}  {H : Heap} {locs : List Loc} (hH : mH D cI cZ ad v0 v1 v2 v3 v4 v5 v6 v7 v8 s H locs) {ls : Array Slot} (hl : lv_has ls 8 [(3, .int x3)]) (hf : f5_does_131 v0 x3 y0 v1 v7 v8 = some t) : W p l e rm5_does s m args below meth c H locs 0 0 (MQ below (va_Qi (fun (r9 : Int32) (_ : Unit) => r9 = t.1) (fun _ t9 => mB D cI cZ ad v0 t.2.1 v2 v3 v4 v5 v6 t.2.2.1 t.2.2.2 t9) (mA ad s.heap.size)) args s 0 0 (mA ad s.heap.size)) (F0 m 131 ls [.int y0]) := by
  obtain ⟨⟨hx, hb, hml, hown, hts⟩, hr, hlk, hK⟩ := id X
  replace hf : (gz x3 (some (x3, v1, v7, v8))) = some t := hf
  refine lv_istore (lv' := [(4, .int y0), (3, .int x3)]) hx hb dX5_does_131 hl (by decide) rfl (fun ls hl => ?_)
  refine lv_iload_n hx hb dX5_does_133 rfl (lv_at hl 1 rfl) ?_
  obtain ⟨hz, hf⟩ := gz_o hf
  obtain rfl := so_i hf
  exact mr_zw X hH rfl (nz_z hz) dX5_does_134
def f5_does_110 (v0 : Nat → Int32) (y0 : Int32) (v1 : Nat → Int32) (v7 : Nat → Int32) (v8 : Nat → Int32) : Option (Int32 × (Nat → Int32) × (Nat → Int32) × (Nat → Int32)) := if y0 = 0 then (f5_does_131 v0 y0 ((-1)) v1 v7 v8) else (Option.bind (f5_loads_0 (v0 14) (v0 15) v1) (fun t2 => f5_does_131 v0 y0 t2.1 t2.2 v7 v8))
set_option maxRecDepth 100000 in
set_option maxHeartbeats 4000000 in
theorem w5_does_110 {p : Program} {l : Launch} {e : Env} {s : State} {m : MethodId} {args : Array Value} {below : List Frame} {meth : Method} {c : Code} {D : va_G} {cI cZ : ClassId} {ad : Nat → Nat} {v0 v1 v2 v3 v4 v5 v6 v7 v8 : Nat → Int32} (X : mX D cI cZ p s m args meth c cX5_does 8 (some .boolean)) (hI : mInj ad) {y0 : Int32} {t : Int32 × (Nat → Int32) × (Nat → Int32) × (Nat → Int32)}  {H : Heap} {locs : List Loc} (hH : mH D cI cZ ad v0 v1 v2 v3 v4 v5 v6 v7 v8 s H locs) {ls : Array Slot} (hl : lv_has ls 8 [(0, .ref (ad 0))]) (hf : f5_does_110 v0 y0 v1 v7 v8 = some t) : W p l e rm5_does s m args below meth c H locs 0 0 (MQ below (va_Qi (fun (r9 : Int32) (_ : Unit) => r9 = t.1) (fun _ t9 => mB D cI cZ ad v0 t.2.1 v2 v3 v4 v5 v6 t.2.2.1 t.2.2.2 t9) (mA ad s.heap.size)) args s 0 0 (mA ad s.heap.size)) (F0 m 110 ls [.int y0]) := by
  obtain ⟨⟨hx, hb, hml, hown, hts⟩, hr, hlk, hK⟩ := id X
  replace hf : (if y0 = 0 then (f5_does_131 v0 y0 ((-1)) v1 v7 v8) else (Option.bind (f5_loads_0 (v0 14) (v0 15) v1) (fun t2 => f5_does_131 v0 y0 t2.1 t2.2 v7 v8))) = some t := hf
  refine lv_istore_n (lv' := [(3, .int y0), (0, .ref (ad 0))]) hx hb dX5_does_110 rfl hl (by decide) rfl (fun ls hl => ?_)
  refine lv_iload_n hx hb dX5_does_111 rfl (lv_at hl 0 rfl) ?_
  refine lv_if_eq (tgt := 130) hx hb dX5_does_112 (by decide) (fun c1 => ?_) (fun c1 => ?_)
  · have hf := it_t c1 hf
    refine lv_iconst (v := (-1)) hx hb dX5_does_130 (by decide) ?_
    exact w5_does_131 X hI hH (lv_sub hl [0] rfl) hf
  · have hf := it_f c1 hf
    refine lv_aload_n hx hb dX5_does_115 rfl (lv_at hl 1 rfl) ?_
    refine lv_aload_n hx hb dX5_does_116 rfl (lv_at hl 1 rfl) ?_
    refine mr_get X hH.1 (k := 14) (v := .int (v0 14)) (by decide) gfX5_163 rfl dX5_does_117 ?_
    refine lv_aload_n hx hb dX5_does_120 rfl (lv_at hl 1 rfl) ?_
    refine mr_get X hH.1 (k := 15) (v := .int (v0 15)) (by decide) gfX5_169 rfl dX5_does_121 ?_
    obtain ⟨t2, ht2, hf⟩ := bd_o hf
    refine k5_loads X hI hH hl.1 qX5_74 ⟨Nat.le_of_ble_eq_true rfl, Nat.le_of_ble_eq_true rfl⟩ ht2 (Nat.le_of_ble_eq_true rfl) dX5_does_124 ⟨Nat.zero_le _, Nat.zero_le _⟩ (fun H locs hH => ?_)
    refine lv_goto (tgt := 131) hx hb dX5_does_127 (by decide) ?_
    exact w5_does_131 X hI hH (lv_sub hl [0] rfl) hf
def f5_does_87 (v0 : Nat → Int32) (x1 : Int32) (y0 : Int32) (v1 : Nat → Int32) (v7 : Nat → Int32) (v8 : Nat → Int32) : Option (Int32 × (Nat → Int32) × (Nat → Int32) × (Nat → Int32)) := gz x1 (some (x1, v1, v7, v8))
set_option maxRecDepth 100000 in
set_option maxHeartbeats 4000000 in
theorem w5_does_87 {p : Program} {l : Launch} {e : Env} {s : State} {m : MethodId} {args : Array Value} {below : List Frame} {meth : Method} {c : Code} {D : va_G} {cI cZ : ClassId} {ad : Nat → Nat} {v0 v1 v2 v3 v4 v5 v6 v7 v8 : Nat → Int32} (X : mX D cI cZ p s m args meth c cX5_does 8 (some .boolean)) (hI : mInj ad) {x1 : Int32} {y0 : Int32} {t : Int32 × (Nat → Int32) × (Nat → Int32) × (Nat → Int32)}  {H : Heap} {locs : List Loc} (hH : mH D cI cZ ad v0 v1 v2 v3 v4 v5 v6 v7 v8 s H locs) {ls : Array Slot} (hl : lv_has ls 8 [(1, .int x1)]) (hf : f5_does_87 v0 x1 y0 v1 v7 v8 = some t) : W p l e rm5_does s m args below meth c H locs 0 0 (MQ below (va_Qi (fun (r9 : Int32) (_ : Unit) => r9 = t.1) (fun _ t9 => mB D cI cZ ad v0 t.2.1 v2 v3 v4 v5 v6 t.2.2.1 t.2.2.2 t9) (mA ad s.heap.size)) args s 0 0 (mA ad s.heap.size)) (F0 m 87 ls [.int y0]) := by
  obtain ⟨⟨hx, hb, hml, hown, hts⟩, hr, hlk, hK⟩ := id X
  replace hf : (gz x1 (some (x1, v1, v7, v8))) = some t := hf
  refine lv_istore_n (lv' := [(2, .int y0), (1, .int x1)]) hx hb dX5_does_87 rfl hl (by decide) rfl (fun ls hl => ?_)
  refine lv_iload_n hx hb dX5_does_88 rfl (lv_at hl 1 rfl) ?_
  obtain ⟨hz, hf⟩ := gz_o hf
  obtain rfl := so_i hf
  exact mr_zw X hH rfl (nz_z hz) dX5_does_89
def f5_does_74 (v0 : Nat → Int32) (y0 : Int32) (v1 : Nat → Int32) (v7 : Nat → Int32) (v8 : Nat → Int32) : Option (Int32 × (Nat → Int32) × (Nat → Int32) × (Nat → Int32)) := if y0 = 0 then (f5_does_87 v0 y0 ((-1)) v1 v7 v8) else (Option.bind (f5_adds_0 v1) (fun t2 => f5_does_87 v0 y0 t2.1 t2.2 v7 v8))
set_option maxRecDepth 100000 in
set_option maxHeartbeats 4000000 in
theorem w5_does_74 {p : Program} {l : Launch} {e : Env} {s : State} {m : MethodId} {args : Array Value} {below : List Frame} {meth : Method} {c : Code} {D : va_G} {cI cZ : ClassId} {ad : Nat → Nat} {v0 v1 v2 v3 v4 v5 v6 v7 v8 : Nat → Int32} (X : mX D cI cZ p s m args meth c cX5_does 8 (some .boolean)) (hI : mInj ad) {y0 : Int32} {t : Int32 × (Nat → Int32) × (Nat → Int32) × (Nat → Int32)}  {H : Heap} {locs : List Loc} (hH : mH D cI cZ ad v0 v1 v2 v3 v4 v5 v6 v7 v8 s H locs) {ls : Array Slot} (hl : lv_has ls 8 [(0, .ref (ad 0))]) (hf : f5_does_74 v0 y0 v1 v7 v8 = some t) : W p l e rm5_does s m args below meth c H locs 0 0 (MQ below (va_Qi (fun (r9 : Int32) (_ : Unit) => r9 = t.1) (fun _ t9 => mB D cI cZ ad v0 t.2.1 v2 v3 v4 v5 v6 t.2.2.1 t.2.2.2 t9) (mA ad s.heap.size)) args s 0 0 (mA ad s.heap.size)) (F0 m 74 ls [.int y0]) := by
  obtain ⟨⟨hx, hb, hml, hown, hts⟩, hr, hlk, hK⟩ := id X
  replace hf : (if y0 = 0 then (f5_does_87 v0 y0 ((-1)) v1 v7 v8) else (Option.bind (f5_adds_0 v1) (fun t2 => f5_does_87 v0 y0 t2.1 t2.2 v7 v8))) = some t := hf
  refine lv_istore_n (lv' := [(1, .int y0), (0, .ref (ad 0))]) hx hb dX5_does_74 rfl hl (by decide) rfl (fun ls hl => ?_)
  refine lv_iload_n hx hb dX5_does_75 rfl (lv_at hl 0 rfl) ?_
  refine lv_if_eq (tgt := 86) hx hb dX5_does_76 (by decide) (fun c1 => ?_) (fun c1 => ?_)
  · have hf := it_t c1 hf
    refine lv_iconst (v := (-1)) hx hb dX5_does_86 (by decide) ?_
    exact w5_does_87 X hI hH (lv_sub hl [0] rfl) hf
  · have hf := it_f c1 hf
    refine lv_aload_n hx hb dX5_does_79 rfl (lv_at hl 1 rfl) ?_
    obtain ⟨t2, ht2, hf⟩ := bd_o hf
    refine k5_adds X hI hH hl.1 qX5_61 ⟨Nat.le_of_ble_eq_true rfl, Nat.le_of_ble_eq_true rfl⟩ ht2 (Nat.le_of_ble_eq_true rfl) dX5_does_80 ⟨Nat.zero_le _, Nat.zero_le _⟩ (fun H locs hH => ?_)
    refine lv_goto (tgt := 87) hx hb dX5_does_83 (by decide) ?_
    exact w5_does_87 X hI hH (lv_sub hl [0] rfl) hf
def f5_does_0 (v0 : Nat → Int32) (v1 : Nat → Int32) (v7 : Nat → Int32) (v8 : Nat → Int32) : Option (Int32 × (Nat → Int32) × (Nat → Int32) × (Nat → Int32)) := if (v0 13) = 98 then (Option.bind (f5_barBrake_0 v1 (v0 14) (v0 15)) (fun t2 => if t2 = 0 then (f5_does_187 v0 1 v1 v7 v8) else (f5_does_187 v0 0 v1 v7 v8))) else (if (v0 13) = 108 then (Option.bind (f5_barLoad_0 v1 (v0 14) (v0 15)) (fun t5 => if t5 = 0 then (f5_does_110 v0 1 v1 v7 v8) else (f5_does_110 v0 0 v1 v7 v8))) else (if (v0 13) = 109 then (Option.bind (f5_isCar_0 v1 (v0 14)) (fun t8 => if t8 = 0 then (f5_does_241 v0 v1 v7 v8) else (Option.bind (f5_pulls_0 (v0 14) v1) (fun t10 => if t10.1 = 0 then (f5_does_242 v0 1 t10.2 v7 v8) else (f5_does_241 v0 t10.2 v7 v8))))) else (if (v0 13) = 110 then (gd 162 171 (if 8 ≤ (v1 (Int32.toNatClampNeg 162)) then (f5_does_74 v0 0 v1 v7 v8) else (f5_does_74 v0 1 v1 v7 v8))) else (if (v0 13) = 114 then (Option.bind (f5_isCar_0 v1 (v0 14)) (fun t16 => if t16 = 0 then (f5_does_165 v0 v1 v7 v8) else (Option.bind (f5_releases_0 (v0 14) (v0 15) v1) (fun t18 => if t18.1 = 0 then (f5_does_166 v0 1 t18.2 v7 v8) else (f5_does_165 v0 t18.2 v7 v8))))) else (Option.bind (f5_runs_0 (v0 14) v1 v7 v8) (fun t20 => some (1, t20.2.1, t20.2.2.1, t20.2.2.2)))))))
set_option maxRecDepth 100000 in
set_option maxHeartbeats 4000000 in
theorem w5_does_0 {p : Program} {l : Launch} {e : Env} {s : State} {m : MethodId} {args : Array Value} {below : List Frame} {meth : Method} {c : Code} {D : va_G} {cI cZ : ClassId} {ad : Nat → Nat} {v0 v1 v2 v3 v4 v5 v6 v7 v8 : Nat → Int32} (X : mX D cI cZ p s m args meth c cX5_does 8 (some .boolean)) (hI : mInj ad) {t : Int32 × (Nat → Int32) × (Nat → Int32) × (Nat → Int32)}  {H : Heap} {locs : List Loc} (hH : mH D cI cZ ad v0 v1 v2 v3 v4 v5 v6 v7 v8 s H locs) {ls : Array Slot} (hl : lv_has ls 8 [(0, .ref (ad 0))]) (hf : f5_does_0 v0 v1 v7 v8 = some t) : W p l e rm5_does s m args below meth c H locs 0 0 (MQ below (va_Qi (fun (r9 : Int32) (_ : Unit) => r9 = t.1) (fun _ t9 => mB D cI cZ ad v0 t.2.1 v2 v3 v4 v5 v6 t.2.2.1 t.2.2.2 t9) (mA ad s.heap.size)) args s 0 0 (mA ad s.heap.size)) (F0 m 0 ls []) := by
  obtain ⟨⟨hx, hb, hml, hown, hts⟩, hr, hlk, hK⟩ := id X
  replace hf : (if (v0 13) = 98 then (Option.bind (f5_barBrake_0 v1 (v0 14) (v0 15)) (fun t2 => if t2 = 0 then (f5_does_187 v0 1 v1 v7 v8) else (f5_does_187 v0 0 v1 v7 v8))) else (if (v0 13) = 108 then (Option.bind (f5_barLoad_0 v1 (v0 14) (v0 15)) (fun t5 => if t5 = 0 then (f5_does_110 v0 1 v1 v7 v8) else (f5_does_110 v0 0 v1 v7 v8))) else (if (v0 13) = 109 then (Option.bind (f5_isCar_0 v1 (v0 14)) (fun t8 => if t8 = 0 then (f5_does_241 v0 v1 v7 v8) else (Option.bind (f5_pulls_0 (v0 14) v1) (fun t10 => if t10.1 = 0 then (f5_does_242 v0 1 t10.2 v7 v8) else (f5_does_241 v0 t10.2 v7 v8))))) else (if (v0 13) = 110 then (gd 162 171 (if 8 ≤ (v1 (Int32.toNatClampNeg 162)) then (f5_does_74 v0 0 v1 v7 v8) else (f5_does_74 v0 1 v1 v7 v8))) else (if (v0 13) = 114 then (Option.bind (f5_isCar_0 v1 (v0 14)) (fun t16 => if t16 = 0 then (f5_does_165 v0 v1 v7 v8) else (Option.bind (f5_releases_0 (v0 14) (v0 15) v1) (fun t18 => if t18.1 = 0 then (f5_does_166 v0 1 t18.2 v7 v8) else (f5_does_165 v0 t18.2 v7 v8))))) else (Option.bind (f5_runs_0 (v0 14) v1 v7 v8) (fun t20 => some (1, t20.2.1, t20.2.2.1, t20.2.2.2)))))))) = some t := hf
  refine lv_aload_n hx hb dX5_does_0 rfl (lv_at hl 0 rfl) ?_
  refine mr_get X hH.1 (k := 13) (v := .int (v0 13)) (by decide) gfX5_157 rfl dX5_does_1 ?_
  by_cases c1 : (v0 13) = 98
  · have hf := it_t c1 hf
    refine lv_lookup (off := 163) (tgt := 167) hx hb dX5_does_4 (by decide) (by rw [c1]; decide) (by decide) ?_
    refine lv_aload_n hx hb dX5_does_167 rfl (lv_at hl 0 rfl) ?_
    refine lv_aload_n hx hb dX5_does_168 rfl (lv_at hl 0 rfl) ?_
    refine mr_get X hH.1 (k := 14) (v := .int (v0 14)) (by decide) gfX5_163 rfl dX5_does_169 ?_
    refine lv_aload_n hx hb dX5_does_172 rfl (lv_at hl 0 rfl) ?_
    refine mr_get X hH.1 (k := 15) (v := .int (v0 15)) (by decide) gfX5_169 rfl dX5_does_173 ?_
    obtain ⟨t2, ht2, hf⟩ := bd_o hf
    refine k5_barBrake X hH.1 hl.1 qX5_96 ⟨Nat.le_of_ble_eq_true rfl, Nat.le_of_ble_eq_true rfl⟩ ht2 (Nat.le_of_ble_eq_true rfl) dX5_does_176 ⟨Nat.zero_le _, Nat.zero_le _⟩ ?_
    refine lv_if_ne (tgt := 186) hx hb dX5_does_179 (by decide) (fun c3 => ?_) (fun c3 => ?_)
    · have hf := it_f c3 hf
      refine lv_iconst (v := 0) hx hb dX5_does_186 (by decide) ?_
      exact w5_does_187 X hI hH (lv_sub hl [0] rfl) hf
    · have hf := it_t c3 hf
      refine lv_iconst (v := 1) hx hb dX5_does_182 (by decide) ?_
      refine lv_goto (tgt := 187) hx hb dX5_does_183 (by decide) ?_
      exact w5_does_187 X hI hH (lv_sub hl [0] rfl) hf
  · have hf := it_f c1 hf
    by_cases c4 : (v0 13) = 108
    · have hf := it_t c4 hf
      refine lv_lookup (off := 86) (tgt := 90) hx hb dX5_does_4 (by decide) (by rw [c4]; decide) (by decide) ?_
      refine lv_aload_n hx hb dX5_does_90 rfl (lv_at hl 0 rfl) ?_
      refine lv_aload_n hx hb dX5_does_91 rfl (lv_at hl 0 rfl) ?_
      refine mr_get X hH.1 (k := 14) (v := .int (v0 14)) (by decide) gfX5_163 rfl dX5_does_92 ?_
      refine lv_aload_n hx hb dX5_does_95 rfl (lv_at hl 0 rfl) ?_
      refine mr_get X hH.1 (k := 15) (v := .int (v0 15)) (by decide) gfX5_169 rfl dX5_does_96 ?_
      obtain ⟨t5, ht5, hf⟩ := bd_o hf
      refine k5_barLoad X hH.1 hl.1 qX5_71 ⟨Nat.le_of_ble_eq_true rfl, Nat.le_of_ble_eq_true rfl⟩ ht5 (Nat.le_of_ble_eq_true rfl) dX5_does_99 ⟨Nat.zero_le _, Nat.zero_le _⟩ ?_
      refine lv_if_ne (tgt := 109) hx hb dX5_does_102 (by decide) (fun c6 => ?_) (fun c6 => ?_)
      · have hf := it_f c6 hf
        refine lv_iconst (v := 0) hx hb dX5_does_109 (by decide) ?_
        exact w5_does_110 X hI hH (lv_sub hl [0] rfl) hf
      · have hf := it_t c6 hf
        refine lv_iconst (v := 1) hx hb dX5_does_105 (by decide) ?_
        refine lv_goto (tgt := 110) hx hb dX5_does_106 (by decide) ?_
        exact w5_does_110 X hI hH (lv_sub hl [0] rfl) hf
    · have hf := it_f c4 hf
      by_cases c7 : (v0 13) = 109
      · have hf := it_t c7 hf
        refine lv_lookup (off := 211) (tgt := 215) hx hb dX5_does_4 (by decide) (by rw [c7]; decide) (by decide) ?_
        refine lv_aload_n hx hb dX5_does_215 rfl (lv_at hl 0 rfl) ?_
        refine lv_aload_n hx hb dX5_does_216 rfl (lv_at hl 0 rfl) ?_
        refine mr_get X hH.1 (k := 14) (v := .int (v0 14)) (by decide) gfX5_163 rfl dX5_does_217 ?_
        obtain ⟨t8, ht8, hf⟩ := bd_o hf
        refine k5_isCar X hH.1 hl.1 qX5_64 ⟨Nat.le_of_ble_eq_true rfl, Nat.le_of_ble_eq_true rfl⟩ ht8 (Nat.le_of_ble_eq_true rfl) dX5_does_220 ⟨Nat.zero_le _, Nat.zero_le _⟩ ?_
        refine lv_if_eq (tgt := 241) hx hb dX5_does_223 (by decide) (fun c9 => ?_) (fun c9 => ?_)
        · have hf := it_t c9 hf
          exact w5_does_241 X hI hH (lv_sub hl [] rfl) hf
        · have hf := it_f c9 hf
          refine lv_aload_n hx hb dX5_does_226 rfl (lv_at hl 0 rfl) ?_
          refine lv_aload_n hx hb dX5_does_227 rfl (lv_at hl 0 rfl) ?_
          refine mr_get X hH.1 (k := 14) (v := .int (v0 14)) (by decide) gfX5_163 rfl dX5_does_228 ?_
          obtain ⟨t10, ht10, hf⟩ := bd_o hf
          refine k5_pulls X hI hH hl.1 qX5_102 ⟨Nat.le_of_ble_eq_true rfl, Nat.le_of_ble_eq_true rfl⟩ ht10 (Nat.le_of_ble_eq_true rfl) dX5_does_231 ⟨Nat.zero_le _, Nat.zero_le _⟩ (fun H locs hH => ?_)
          refine lv_if_ne (tgt := 241) hx hb dX5_does_234 (by decide) (fun c11 => ?_) (fun c11 => ?_)
          · have hf := it_f c11 hf
            exact w5_does_241 X hI hH (lv_sub hl [] rfl) hf
          · have hf := it_t c11 hf
            refine lv_iconst (v := 1) hx hb dX5_does_237 (by decide) ?_
            refine lv_goto (tgt := 242) hx hb dX5_does_238 (by decide) ?_
            exact w5_does_242 X hI hH (lv_sub hl [] rfl) hf
      · have hf := it_f c7 hf
        by_cases c12 : (v0 13) = 110
        · have hf := it_t c12 hf
          refine lv_lookup (off := 52) (tgt := 56) hx hb dX5_does_4 (by decide) (by rw [c12]; decide) (by decide) ?_
          refine lv_aload_n hx hb dX5_does_56 rfl (lv_at hl 0 rfl) ?_
          refine mr_get X hH.1 (k := 0) (v := .ref (ad 1)) (by decide) gfX5_7 rfl dX5_does_57 ?_
          refine lv_sipush (v := 162) hx hb dX5_does_60 (by decide) ?_
          obtain ⟨hi13, hf⟩ := gd_o hf
          refine mr_ld1 X hH.1 hi13 dX5_does_63 ?_
          refine lv_bipush (v := 8) hx hb dX5_does_64 (by decide) ?_
          refine lv_icmp_ge (tgt := 73) hx hb dX5_does_66 (by decide) (fun c14 => ?_) (fun c14 => ?_)
          · have hf := it_t c14 hf
            refine lv_iconst (v := 0) hx hb dX5_does_73 (by decide) ?_
            exact w5_does_74 X hI hH (lv_sub hl [0] rfl) hf
          · have hf := it_f c14 hf
            refine lv_iconst (v := 1) hx hb dX5_does_69 (by decide) ?_
            refine lv_goto (tgt := 74) hx hb dX5_does_70 (by decide) ?_
            exact w5_does_74 X hI hH (lv_sub hl [0] rfl) hf
        · have hf := it_f c12 hf
          by_cases c15 : (v0 13) = 114
          · have hf := it_t c15 hf
            refine lv_lookup (off := 131) (tgt := 135) hx hb dX5_does_4 (by decide) (by rw [c15]; decide) (by decide) ?_
            refine lv_aload_n hx hb dX5_does_135 rfl (lv_at hl 0 rfl) ?_
            refine lv_aload_n hx hb dX5_does_136 rfl (lv_at hl 0 rfl) ?_
            refine mr_get X hH.1 (k := 14) (v := .int (v0 14)) (by decide) gfX5_163 rfl dX5_does_137 ?_
            obtain ⟨t16, ht16, hf⟩ := bd_o hf
            refine k5_isCar X hH.1 hl.1 qX5_64 ⟨Nat.le_of_ble_eq_true rfl, Nat.le_of_ble_eq_true rfl⟩ ht16 (Nat.le_of_ble_eq_true rfl) dX5_does_140 ⟨Nat.zero_le _, Nat.zero_le _⟩ ?_
            refine lv_if_eq (tgt := 165) hx hb dX5_does_143 (by decide) (fun c17 => ?_) (fun c17 => ?_)
            · have hf := it_t c17 hf
              exact w5_does_165 X hI hH (lv_sub hl [] rfl) hf
            · have hf := it_f c17 hf
              refine lv_aload_n hx hb dX5_does_146 rfl (lv_at hl 0 rfl) ?_
              refine lv_aload_n hx hb dX5_does_147 rfl (lv_at hl 0 rfl) ?_
              refine mr_get X hH.1 (k := 14) (v := .int (v0 14)) (by decide) gfX5_163 rfl dX5_does_148 ?_
              refine lv_aload_n hx hb dX5_does_151 rfl (lv_at hl 0 rfl) ?_
              refine mr_get X hH.1 (k := 15) (v := .int (v0 15)) (by decide) gfX5_169 rfl dX5_does_152 ?_
              obtain ⟨t18, ht18, hf⟩ := bd_o hf
              refine k5_releases X hI hH hl.1 qX5_93 ⟨Nat.le_of_ble_eq_true rfl, Nat.le_of_ble_eq_true rfl⟩ ht18 (Nat.le_of_ble_eq_true rfl) dX5_does_155 ⟨Nat.zero_le _, Nat.zero_le _⟩ (fun H locs hH => ?_)
              refine lv_if_ne (tgt := 165) hx hb dX5_does_158 (by decide) (fun c19 => ?_) (fun c19 => ?_)
              · have hf := it_f c19 hf
                exact w5_does_165 X hI hH (lv_sub hl [] rfl) hf
              · have hf := it_t c19 hf
                refine lv_iconst (v := 1) hx hb dX5_does_161 (by decide) ?_
                refine lv_goto (tgt := 166) hx hb dX5_does_162 (by decide) ?_
                exact w5_does_166 X hI hH (lv_sub hl [] rfl) hf
          · have hf := it_f c15 hf
            refine lv_lookup (off := 239) (tgt := 243) hx hb dX5_does_4 (by decide) ?_ (by decide) ?_
            · show Op.lookupswitch.offset [(98, 163), (108, 86), (109, 211), (110, 52), (114, 131)] 239 (Int32.toInt (v0 13)) = _
              rw [lv_osw c1 (by decide), lv_osw c4 (by decide), lv_osw c7 (by decide), lv_osw c12 (by decide), lv_osw c15 (by decide)]; rfl
            refine lv_aload_n hx hb dX5_does_243 rfl (lv_at hl 0 rfl) ?_
            refine lv_aload_n hx hb dX5_does_244 rfl (lv_at hl 0 rfl) ?_
            refine mr_get X hH.1 (k := 14) (v := .int (v0 14)) (by decide) gfX5_163 rfl dX5_does_245 ?_
            obtain ⟨t20, ht20, hf⟩ := bd_o hf
            refine k5_runs X hI hH hl.1 qX5_138 ⟨Nat.le_of_ble_eq_true rfl, Nat.le_of_ble_eq_true rfl⟩ ht20 (Nat.le_of_ble_eq_true rfl) dX5_does_248 ⟨Nat.zero_le _, Nat.zero_le _⟩ (fun H locs hH => ?_)
            refine lv_istore (lv' := [(7, .int t20.1), (0, .ref (ad 0))]) hx hb dX5_does_251 hl (by decide) rfl (fun ls hl => ?_)
            refine lv_iconst (v := 1) hx hb dX5_does_253 (by decide) ?_
            obtain rfl := so_i hf
            exact mr_zw X hH rfl (nz_z (Or.inr rfl)) dX5_does_254
set_option maxRecDepth 100000 in
set_option maxHeartbeats 4000000 in
theorem c5_does (l : Launch) {D : va_G} {cI cZ : ClassId} {ad : Nat → Nat} {v0 v1 v2 v3 v4 v5 v6 v7 v8 : Nat → Int32} (hI : mInj ad) (sz : Nat) {t : Int32 × (Nat → Int32) × (Nat → Int32) × (Nat → Int32)} (hf : f5_does_0 v0 v1 v7 v8 = some t) : Met l yX5_does uX5_does rm5_does (va_Pc [.ref (ad 0)] (fun U => U.heap.size = sz ∧ mB D cI cZ ad v0 v1 v2 v3 v4 v5 v6 v7 v8 U)) (va_Qi (fun (r9 : Int32) (_ : Unit) => r9 = t.1) (fun _ t9 => mB D cI cZ ad v0 t.2.1 v2 v3 v4 v5 v6 t.2.2.1 t.2.2.2 t9) (mA ad sz)) 0 0 (mA ad sz) := by
  refine Met.ofW (cc := cX5_does) (maxL := 8) (ret := (some .boolean)) (by decide) rfl ?_
  intro p e s m args below meth c s₁ B hml hv
  obtain ⟨rfl, hsz, hP, hK⟩ := hv
  subst hsz
  have X : mX D cI cZ p s m ([.ref (ad 0)] : List Value).toArray meth c cX5_does 8 (some .boolean) := ⟨⟨B.exec, B.bytes, hml, findClass_of_methodNamed B.named, fun w h => atoms_spec (ws := uX5_does) B.pre w (List.mem_cons_of_mem _ h)⟩, B.returns, B.notSynchronized, hK⟩
  have hl := lv_entry ([.ref (ad 0)]) (n := 8) (Nat.le_of_ble_eq_true rfl)
  rw [lg_entry_eq]
  generalize (lg_sl ([.ref (ad 0)]) ++ List.replicate (8 - (lg_sl ([.ref (ad 0)])).length) Slot.unset).toArray = ls at hl ⊢
  have hl : lv_has ls 8 [(0, .ref (ad 0))] := hl
  exact w5_does_0 X hI ⟨hP, va_S.rf⟩ (lv_sub hl [0] rfl) hf
set_option maxRecDepth 100000 in
set_option maxHeartbeats 4000000 in
theorem k5_does {p : Program} {l : Launch} {e : Env} {R : Room} {s : State} {m : MethodId} {args : Array Value} {below : List Frame} {meth : Method} {c : Code} {cc : ByteArray} {nL : Nat} {ret : Option FieldType} {D : va_G} {cI cZ : ClassId} {ad : Nat → Nat} {v0 v1 v2 v3 v4 v5 v6 v7 v8 : Nat → Int32} {H : Heap} {locs : List Loc} {cells slots : Nat} {Q : State → Prop} {pc : Nat} {ls : Array Slot} {rest : List Value} (X : mX D cI cZ p s m args meth c cc nL ret) (hI : mInj ad) (hH : mH D cI cZ ad v0 v1 v2 v3 v4 v5 v6 v7 v8 s H locs) (hls : ls.size = nL) {index : Nat} (hG : GoodIn gw (wsV RX5 index RX5 yX5_does uX5_does)) (hR : rm5_does.frames + 1 ≤ R.frames ∧ 8 + (8 + 11) + rm5_does.locals ≤ R.locals) {t : Int32 × (Nat → Int32) × (Nat → Int32) × (Nat → Int32)} (hf : f5_does_0 v0 v1 v7 v8 = some t) (hrest : (rest.map fun v => v.category).sum ≤ 8) (hdg : decode cc pc = .ok (.invokevirtual index, 3)) (hc : cells ≤ R.cells ∧ slots ≤ R.slots) (kk : ∀ (H1 : Heap) (locs1 : List Loc), mH D cI cZ ad v0 t.2.1 v2 v3 v4 v5 v6 t.2.2.1 t.2.2.2 s H1 locs1 → W p l e R s m args below meth c H1 locs1 cells slots Q (F0 m (pc + 3) ls (.int t.1 :: rest))) : W p l e R s m args below meth c H locs cells slots Q (F0 m pc ls (.ref (ad 0) :: rest)) := by
  have hA : ∀ q, mA ad H.size q → mA ad s.heap.size q := fun q h => h.elim Or.inl (fun h => Or.inr (Nat.le_trans hH.2.1 h))
  refine va_calli (va_runV (As := []) (rest := rest) X.1 (c5_does l hI H.size hf) (cwV 0 X.1.2.2.2.2 hG rfl rfl rfl (by decide +kernel) hR) ⟨mBs_bl, va_recv X.2.2.2 hH.1 (ci := 5) (q0 := 0) rfl rfl, fun U hU hW => ⟨rfl, by rw [hU], by rw [hU]; exact hH.1, va_K.moved hW.alike X.2.2.2⟩⟩ rfl rfl hls rfl (lv_room hrest) hdg hc) hH.2 (fun q _ h => hA q h) hA (fun r9 u t9 H1 locs1 ht hvm hw hB hz1 hk1 hS => ?_)
  subst hw
  exact kk H1 locs1 ⟨by rw [← ht]; exact hB.1, hS⟩
/-! OreRailwayModel.execute()I -/
def rm5_execute : Room := { frames := 7, cells := 0, slots := 0, locals := 167 }
def f5_execute_83 (v6 : Nat → Int32) (x1 : Int32) (v0 : Nat → Int32) (v1 : Nat → Int32) (v3 : Nat → Int32) (v7 : Nat → Int32) (v8 : Nat → Int32) : Option (Int32 × (Nat → Int32) × (Nat → Int32) × (Nat → Int32) × (Nat → Int32) × (Nat → Int32)) := some (x1, upd v0 7 0, v1, v3, v7, v8)
set_option maxRecDepth 100000 in
set_option maxHeartbeats 4000000 in
theorem w5_execute_83 {p : Program} {l : Launch} {e : Env} {s : State} {m : MethodId} {args : Array Value} {below : List Frame} {meth : Method} {c : Code} {D : va_G} {cI cZ : ClassId} {ad : Nat → Nat} {v0 v1 v2 v3 v4 v5 v6 v7 v8 : Nat → Int32} (X : mX D cI cZ p s m args meth c cX5_execute 3 (some .int)) (hI : mInj ad) {x1 : Int32} {t : Int32 × (Nat → Int32) × (Nat → Int32) × (Nat → Int32) × (Nat → Int32) × (Nat → Int32)}  {H : Heap} {locs : List Loc} (hH : mH D cI cZ ad v0 v1 v2 v3 v4 v5 v6 v7 v8 s H locs) {ls : Array Slot} (hl : lv_has ls 3 [(0, .ref (ad 0)), (1, .int x1)]) (hf : f5_execute_83 v6 x1 v0 v1 v3 v7 v8 = some t) : W p l e rm5_execute s m args below meth c H locs 0 0 (MQ below (va_Qi (fun (r9 : Int32) (_ : Unit) => r9 = t.1) (fun _ t9 => mB D cI cZ ad t.2.1 t.2.2.1 v2 t.2.2.2.1 v4 v5 v6 t.2.2.2.2.1 t.2.2.2.2.2 t9) (mA ad s.heap.size)) args s 0 0 (mA ad s.heap.size)) (F0 m 83 ls []) := by
  obtain ⟨⟨hx, hb, hml, hown, hts⟩, hr, hlk, hK⟩ := id X
  replace hf : (some (x1, upd v0 7 0, v1, v3, v7, v8)) = some t := hf
  refine lv_aload_n hx hb dX5_execute_83 rfl (lv_at hl 0 rfl) ?_
  refine lv_iconst (v := 0) hx hb dX5_execute_84 (by decide) ?_
  refine mr_put X hI hH 7 (by decide) gfX5_141 rfl rfl dX5_execute_85 (fun H locs hH => ?_)
  refine lv_iload_n hx hb dX5_execute_88 rfl (lv_at hl 1 rfl) ?_
  obtain rfl := so_i hf
  exact mr_iw X hH rfl dX5_execute_89
def f5_execute_78 (v6 : Nat → Int32) (K34 : Int32 → Int32 → (Nat → Int32) → (Nat → Int32) → (Nat → Int32) → (Nat → Int32) → (Nat → Int32) → (Option (Int32 × (Nat → Int32) × (Nat → Int32) × (Nat → Int32) × (Nat → Int32) × (Nat → Int32)))) (x2 : Int32) (y0 : Int32) (y1 : Int32) (v0 : Nat → Int32) (v1 : Nat → Int32) (v3 : Nat → Int32) (v7 : Nat → Int32) (v8 : Nat → Int32) : Option (Int32 × (Nat → Int32) × (Nat → Int32) × (Nat → Int32) × (Nat → Int32) × (Nat → Int32)) := K34 (y1 + y0) x2 v0 v1 v3 v7 v8
set_option maxRecDepth 100000 in
set_option maxHeartbeats 4000000 in
theorem w5_execute_78 {p : Program} {l : Launch} {e : Env} {s : State} {m : MethodId} {args : Array Value} {below : List Frame} {meth : Method} {c : Code} {D : va_G} {cI cZ : ClassId} {ad : Nat → Nat} {v0 v1 v2 v3 v4 v5 v6 v7 v8 : Nat → Int32} (X : mX D cI cZ p s m args meth c cX5_execute 3 (some .int)) (hI : mInj ad) {x2 : Int32} {y0 : Int32} {y1 : Int32} {t : Int32 × (Nat → Int32) × (Nat → Int32) × (Nat → Int32) × (Nat → Int32) × (Nat → Int32)} {K34 : Int32 → Int32 → (Nat → Int32) → (Nat → Int32) → (Nat → Int32) → (Nat → Int32) → (Nat → Int32) → (Option (Int32 × (Nat → Int32) × (Nat → Int32) × (Nat → Int32) × (Nat → Int32) × (Nat → Int32)))} (hK34 : ∀ (x1 : Int32) (x2 : Int32) (v0 : Nat → Int32) (v1 : Nat → Int32) (v3 : Nat → Int32) (v7 : Nat → Int32) (v8 : Nat → Int32) (H : Heap) (locs : List Loc), mH D cI cZ ad v0 v1 v2 v3 v4 v5 v6 v7 v8 s H locs → ∀ (ls : Array Slot), lv_has ls 3 [(0, .ref (ad 0)), (1, .int x1), (2, .int x2)] → K34 x1 x2 v0 v1 v3 v7 v8 = some t → W p l e rm5_execute s m args below meth c H locs 0 0 (MQ below (va_Qi (fun (r9 : Int32) (_ : Unit) => r9 = t.1) (fun _ t9 => mB D cI cZ ad t.2.1 t.2.2.1 v2 t.2.2.2.1 v4 v5 v6 t.2.2.2.2.1 t.2.2.2.2.2 t9) (mA ad s.heap.size)) args s 0 0 (mA ad s.heap.size)) (F0 m 34 ls []))  {H : Heap} {locs : List Loc} (hH : mH D cI cZ ad v0 v1 v2 v3 v4 v5 v6 v7 v8 s H locs) {ls : Array Slot} (hl : lv_has ls 3 [(0, .ref (ad 0)), (2, .int x2)]) (hf : f5_execute_78 v6 K34 x2 y0 y1 v0 v1 v3 v7 v8 = some t) : W p l e rm5_execute s m args below meth c H locs 0 0 (MQ below (va_Qi (fun (r9 : Int32) (_ : Unit) => r9 = t.1) (fun _ t9 => mB D cI cZ ad t.2.1 t.2.2.1 v2 t.2.2.2.1 v4 v5 v6 t.2.2.2.2.1 t.2.2.2.2.2 t9) (mA ad s.heap.size)) args s 0 0 (mA ad s.heap.size)) (F0 m 78 ls [.int y0, .int y1]) := by
  obtain ⟨⟨hx, hb, hml, hown, hts⟩, hr, hlk, hK⟩ := id X
  replace hf : (K34 (y1 + y0) x2 v0 v1 v3 v7 v8) = some t := hf
  refine lv_iadd hx hb dX5_execute_78 ?_
  refine lv_istore_n (lv' := [(1, .int (y1 + y0)), (0, .ref (ad 0)), (2, .int x2)]) hx hb dX5_execute_79 rfl hl (by decide) rfl (fun ls hl => ?_)
  refine lv_goto (tgt := 34) hx hb dX5_execute_80 (by decide) ?_
  exact hK34 _ _ _ _ _ _ _ _ _ hH _ (lv_sub hl [1, 0, 2] rfl) hf
def f5_execute_34 (v6 : Nat → Int32) : Nat → Int32 → Int32 → (Nat → Int32) → (Nat → Int32) → (Nat → Int32) → (Nat → Int32) → (Nat → Int32) → Option (Int32 × (Nat → Int32) × (Nat → Int32) × (Nat → Int32) × (Nat → Int32) × (Nat → Int32))
  | 0, _, _, _, _, _, _, _ => none
  | n + 1, x1, x2, v0, v1, v3, v7, v8 => if x2 = 0 then (f5_execute_83 v6 x1 v0 v1 v3 v7 v8) else (if (v0 7) ≤ (v0 11) then (f5_execute_83 v6 x1 v0 v1 v3 v7 v8) else (Option.bind (f5_order_0 v6 v0) (fun t3 => Option.bind (f5_does_0 (upd t3 11 ((t3 11) + 1)) v1 v7 v8) (fun t4 => if t4.1 = 0 then (f5_execute_78 v6 (f5_execute_34 v6 n) t4.1 0 x1 (upd t3 11 ((t3 11) + 1)) t4.2.1 v3 t4.2.2.1 t4.2.2.2) else (f5_execute_78 v6 (f5_execute_34 v6 n) t4.1 1 x1 (upd t3 11 ((t3 11) + 1)) t4.2.1 v3 t4.2.2.1 t4.2.2.2)))))
set_option maxRecDepth 100000 in
set_option maxHeartbeats 4000000 in
theorem w5_execute_34 {p : Program} {l : Launch} {e : Env} {s : State} {m : MethodId} {args : Array Value} {below : List Frame} {meth : Method} {c : Code} {D : va_G} {cI cZ : ClassId} {ad : Nat → Nat} {v2 v4 v5 v6 : Nat → Int32} (X : mX D cI cZ p s m args meth c cX5_execute 3 (some .int)) (hI : mInj ad) {t : Int32 × (Nat → Int32) × (Nat → Int32) × (Nat → Int32) × (Nat → Int32) × (Nat → Int32)} :
    ∀ (n : Nat) (x1 : Int32) (x2 : Int32) (v0 : Nat → Int32) (v1 : Nat → Int32) (v3 : Nat → Int32) (v7 : Nat → Int32) (v8 : Nat → Int32) (H : Heap) (locs : List Loc), mH D cI cZ ad v0 v1 v2 v3 v4 v5 v6 v7 v8 s H locs → ∀ (ls : Array Slot), lv_has ls 3 [(0, .ref (ad 0)), (1, .int x1), (2, .int x2)] → f5_execute_34 v6 n x1 x2 v0 v1 v3 v7 v8 = some t → W p l e rm5_execute s m args below meth c H locs 0 0 (MQ below (va_Qi (fun (r9 : Int32) (_ : Unit) => r9 = t.1) (fun _ t9 => mB D cI cZ ad t.2.1 t.2.2.1 v2 t.2.2.2.1 v4 v5 v6 t.2.2.2.2.1 t.2.2.2.2.2 t9) (mA ad s.heap.size)) args s 0 0 (mA ad s.heap.size)) (F0 m 34 ls []) := by
  obtain ⟨⟨hx, hb, hml, hown, hts⟩, hr, hlk, hK⟩ := id X
  intro n
  induction n with
  | zero =>
    intro x1 x2 v0 v1 v3 v7 v8 H locs hH ls hl hf
    cases hf
  | succ n ih =>
    intro x1 x2 v0 v1 v3 v7 v8 H locs hH ls hl hf
    replace hf : (if x2 = 0 then (f5_execute_83 v6 x1 v0 v1 v3 v7 v8) else (if (v0 7) ≤ (v0 11) then (f5_execute_83 v6 x1 v0 v1 v3 v7 v8) else (Option.bind (f5_order_0 v6 v0) (fun t3 => Option.bind (f5_does_0 (upd t3 11 ((t3 11) + 1)) v1 v7 v8) (fun t4 => if t4.1 = 0 then (f5_execute_78 v6 (f5_execute_34 v6 n) t4.1 0 x1 (upd t3 11 ((t3 11) + 1)) t4.2.1 v3 t4.2.2.1 t4.2.2.2) else (f5_execute_78 v6 (f5_execute_34 v6 n) t4.1 1 x1 (upd t3 11 ((t3 11) + 1)) t4.2.1 v3 t4.2.2.1 t4.2.2.2)))))) = some t := hf
    refine lv_iload_n hx hb dX5_execute_34 rfl (lv_at hl 2 rfl) ?_
    refine lv_if_eq (tgt := 83) hx hb dX5_execute_35 (by decide) (fun c1 => ?_) (fun c1 => ?_)
    · have hf := it_t c1 hf
      exact w5_execute_83 X hI hH (lv_sub hl [0, 1] rfl) hf
    · have hf := it_f c1 hf
      refine lv_aload_n hx hb dX5_execute_38 rfl (lv_at hl 0 rfl) ?_
      refine mr_get X hH.1 (k := 11) (v := .int (v0 11)) (by decide) gfX5_144 rfl dX5_execute_39 ?_
      refine lv_aload_n hx hb dX5_execute_42 rfl (lv_at hl 0 rfl) ?_
      refine mr_get X hH.1 (k := 7) (v := .int (v0 7)) (by decide) gfX5_141 rfl dX5_execute_43 ?_
      refine lv_icmp_ge (tgt := 83) hx hb dX5_execute_46 (by decide) (fun c2 => ?_) (fun c2 => ?_)
      · have hf := it_t c2 hf
        exact w5_execute_83 X hI hH (lv_sub hl [0, 1] rfl) hf
      · have hf := it_f c2 hf
        refine lv_aload_n hx hb dX5_execute_49 rfl (lv_at hl 0 rfl) ?_
        obtain ⟨t3, ht3, hf⟩ := bd_o hf
        refine k5_order X hI hH hl.1 qX5_172 ⟨Nat.le_of_ble_eq_true rfl, Nat.le_of_ble_eq_true rfl⟩ ht3 (Nat.le_of_ble_eq_true rfl) dX5_execute_50 ⟨Nat.zero_le _, Nat.zero_le _⟩ (fun H locs hH => ?_)
        refine lv_aload_n hx hb dX5_execute_53 rfl (lv_at hl 0 rfl) ?_
        refine lv_dup hx hb dX5_execute_54 rfl ?_
        refine mr_get X hH.1 (k := 11) (v := .int (t3 11)) (by decide) gfX5_144 rfl dX5_execute_55 ?_
        refine lv_iconst (v := 1) hx hb dX5_execute_58 (by decide) ?_
        refine lv_iadd hx hb dX5_execute_59 ?_
        refine mr_put X hI hH 11 (by decide) gfX5_144 rfl rfl dX5_execute_60 (fun H locs hH => ?_)
        refine lv_aload_n hx hb dX5_execute_63 rfl (lv_at hl 0 rfl) ?_
        obtain ⟨t4, ht4, hf⟩ := bd_o hf
        refine k5_does X hI hH hl.1 qX5_179 ⟨Nat.le_of_ble_eq_true rfl, Nat.le_of_ble_eq_true rfl⟩ ht4 (Nat.le_of_ble_eq_true rfl) dX5_execute_64 ⟨Nat.zero_le _, Nat.zero_le _⟩ (fun H locs hH => ?_)
        refine lv_istore_n (lv' := [(2, .int t4.1), (0, .ref (ad 0)), (1, .int x1)]) hx hb dX5_execute_67 rfl hl (by decide) rfl (fun ls hl => ?_)
        refine lv_iload_n hx hb dX5_execute_68 rfl (lv_at hl 2 rfl) ?_
        refine lv_iload_n hx hb dX5_execute_69 rfl (lv_at hl 0 rfl) ?_
        refine lv_if_eq (tgt := 77) hx hb dX5_execute_70 (by decide) (fun c5 => ?_) (fun c5 => ?_)
        · have hf := it_t c5 hf
          refine lv_iconst (v := 0) hx hb dX5_execute_77 (by decide) ?_
          exact w5_execute_78 X hI (K34 := (f5_execute_34 v6 n)) ih hH (lv_sub hl [1, 0] rfl) hf
        · have hf := it_f c5 hf
          refine lv_iconst (v := 1) hx hb dX5_execute_73 (by decide) ?_
          refine lv_goto (tgt := 78) hx hb dX5_execute_74 (by decide) ?_
          exact w5_execute_78 X hI (K34 := (f5_execute_34 v6 n)) ih hH (lv_sub hl [1, 0] rfl) hf
def f5_execute_13 (v6 : Nat → Int32) (y0 : Int32) (v0 : Nat → Int32) (v1 : Nat → Int32) (v3 : Nat → Int32) (v7 : Nat → Int32) (v8 : Nat → Int32) : Option (Int32 × (Nat → Int32) × (Nat → Int32) × (Nat → Int32) × (Nat → Int32) × (Nat → Int32)) := Option.bind (f5_refused_0 y0 v0) (fun t1 => if t1.1 = 0 then (Option.bind (f5_saves_0 v1 t1.2 v3) (fun t3 => f5_execute_34 v6 fu 0 1 (upd t3.1 11 0) v1 t3.2 v7 v8)) else (some (0, t1.2, v1, v3, v7, v8)))
set_option maxRecDepth 100000 in
set_option maxHeartbeats 4000000 in
theorem w5_execute_13 {p : Program} {l : Launch} {e : Env} {s : State} {m : MethodId} {args : Array Value} {below : List Frame} {meth : Method} {c : Code} {D : va_G} {cI cZ : ClassId} {ad : Nat → Nat} {v0 v1 v2 v3 v4 v5 v6 v7 v8 : Nat → Int32} (X : mX D cI cZ p s m args meth c cX5_execute 3 (some .int)) (hI : mInj ad) {y0 : Int32} {t : Int32 × (Nat → Int32) × (Nat → Int32) × (Nat → Int32) × (Nat → Int32) × (Nat → Int32)}  {H : Heap} {locs : List Loc} (hH : mH D cI cZ ad v0 v1 v2 v3 v4 v5 v6 v7 v8 s H locs) {ls : Array Slot} (hl : lv_has ls 3 [(0, .ref (ad 0))]) (hf : f5_execute_13 v6 y0 v0 v1 v3 v7 v8 = some t) : W p l e rm5_execute s m args below meth c H locs 0 0 (MQ below (va_Qi (fun (r9 : Int32) (_ : Unit) => r9 = t.1) (fun _ t9 => mB D cI cZ ad t.2.1 t.2.2.1 v2 t.2.2.2.1 v4 v5 v6 t.2.2.2.2.1 t.2.2.2.2.2 t9) (mA ad s.heap.size)) args s 0 0 (mA ad s.heap.size)) (F0 m 13 ls [.int y0, .ref (ad 0)]) := by
  obtain ⟨⟨hx, hb, hml, hown, hts⟩, hr, hlk, hK⟩ := id X
  replace hf : (Option.bind (f5_refused_0 y0 v0) (fun t1 => if t1.1 = 0 then (Option.bind (f5_saves_0 v1 t1.2 v3) (fun t3 => f5_execute_34 v6 fu 0 1 (upd t3.1 11 0) v1 t3.2 v7 v8)) else (some (0, t1.2, v1, v3, v7, v8)))) = some t := hf
  obtain ⟨t1, ht1, hf⟩ := bd_o hf
  refine k5_refused X hI hH hl.1 qX5_50 ⟨Nat.le_of_ble_eq_true rfl, Nat.le_of_ble_eq_true rfl⟩ ht1 (Nat.le_of_ble_eq_true rfl) dX5_execute_13 ⟨Nat.zero_le _, Nat.zero_le _⟩ (fun H locs hH => ?_)
  refine lv_if_eq (tgt := 21) hx hb dX5_execute_16 (by decide) (fun c2 => ?_) (fun c2 => ?_)
  · have hf := it_t c2 hf
    refine lv_aload_n hx hb dX5_execute_21 rfl (lv_at hl 0 rfl) ?_
    obtain ⟨t3, ht3, hf⟩ := bd_o hf
    refine k5_saves X hI hH hl.1 qX5_54 ⟨Nat.le_of_ble_eq_true rfl, Nat.le_of_ble_eq_true rfl⟩ ht3 (Nat.le_of_ble_eq_true rfl) dX5_execute_22 ⟨Nat.zero_le _, Nat.zero_le _⟩ (fun H locs hH => ?_)
    refine lv_iconst (v := 0) hx hb dX5_execute_25 (by decide) ?_
    refine lv_istore_n (lv' := [(1, .int 0), (0, .ref (ad 0))]) hx hb dX5_execute_26 rfl hl (by decide) rfl (fun ls hl => ?_)
    refine lv_aload_n hx hb dX5_execute_27 rfl (lv_at hl 1 rfl) ?_
    refine lv_iconst (v := 0) hx hb dX5_execute_28 (by decide) ?_
    refine mr_put X hI hH 11 (by decide) gfX5_144 rfl rfl dX5_execute_29 (fun H locs hH => ?_)
    refine lv_iconst (v := 1) hx hb dX5_execute_32 (by decide) ?_
    refine lv_istore_n (lv' := [(2, .int 1), (1, .int 0), (0, .ref (ad 0))]) hx hb dX5_execute_33 rfl hl (by decide) rfl (fun ls hl => ?_)
    exact w5_execute_34 X hI _ _ _ _ _ _ _ _ _ _ hH _ (lv_sub hl [2, 1, 0] rfl) hf
  · have hf := it_f c2 hf
    refine lv_iconst (v := 0) hx hb dX5_execute_19 (by decide) ?_
    obtain rfl := so_i hf
    exact mr_iw X hH rfl dX5_execute_20
def f5_execute_0 (v6 : Nat → Int32) (v0 : Nat → Int32) (v1 : Nat → Int32) (v3 : Nat → Int32) (v7 : Nat → Int32) (v8 : Nat → Int32) : Option (Int32 × (Nat → Int32) × (Nat → Int32) × (Nat → Int32) × (Nat → Int32) × (Nat → Int32)) := Option.bind (f5_isWhole_0 v6 v0) (fun t1 => if t1.1 = 0 then (f5_execute_13 v6 1 t1.2 v1 v3 v7 v8) else (f5_execute_13 v6 0 t1.2 v1 v3 v7 v8))
set_option maxRecDepth 100000 in
set_option maxHeartbeats 4000000 in
theorem w5_execute_0 {p : Program} {l : Launch} {e : Env} {s : State} {m : MethodId} {args : Array Value} {below : List Frame} {meth : Method} {c : Code} {D : va_G} {cI cZ : ClassId} {ad : Nat → Nat} {v0 v1 v2 v3 v4 v5 v6 v7 v8 : Nat → Int32} (X : mX D cI cZ p s m args meth c cX5_execute 3 (some .int)) (hI : mInj ad) {t : Int32 × (Nat → Int32) × (Nat → Int32) × (Nat → Int32) × (Nat → Int32) × (Nat → Int32)}  {H : Heap} {locs : List Loc} (hH : mH D cI cZ ad v0 v1 v2 v3 v4 v5 v6 v7 v8 s H locs) {ls : Array Slot} (hl : lv_has ls 3 [(0, .ref (ad 0))]) (hf : f5_execute_0 v6 v0 v1 v3 v7 v8 = some t) : W p l e rm5_execute s m args below meth c H locs 0 0 (MQ below (va_Qi (fun (r9 : Int32) (_ : Unit) => r9 = t.1) (fun _ t9 => mB D cI cZ ad t.2.1 t.2.2.1 v2 t.2.2.2.1 v4 v5 v6 t.2.2.2.2.1 t.2.2.2.2.2 t9) (mA ad s.heap.size)) args s 0 0 (mA ad s.heap.size)) (F0 m 0 ls []) := by
  obtain ⟨⟨hx, hb, hml, hown, hts⟩, hr, hlk, hK⟩ := id X
  replace hf : (Option.bind (f5_isWhole_0 v6 v0) (fun t1 => if t1.1 = 0 then (f5_execute_13 v6 1 t1.2 v1 v3 v7 v8) else (f5_execute_13 v6 0 t1.2 v1 v3 v7 v8))) = some t := hf
  refine lv_aload_n hx hb dX5_execute_0 rfl (lv_at hl 0 rfl) ?_
  refine lv_aload_n hx hb dX5_execute_1 rfl (lv_at hl 0 rfl) ?_
  obtain ⟨t1, ht1, hf⟩ := bd_o hf
  refine k5_isWhole X hI hH hl.1 qX5_175 ⟨Nat.le_of_ble_eq_true rfl, Nat.le_of_ble_eq_true rfl⟩ ht1 (Nat.le_of_ble_eq_true rfl) dX5_execute_2 ⟨Nat.zero_le _, Nat.zero_le _⟩ (fun H locs hH => ?_)
  refine lv_if_eq (tgt := 12) hx hb dX5_execute_5 (by decide) (fun c2 => ?_) (fun c2 => ?_)
  · have hf := it_t c2 hf
    refine lv_iconst (v := 1) hx hb dX5_execute_12 (by decide) ?_
    exact w5_execute_13 X hI hH (lv_sub hl [0] rfl) hf
  · have hf := it_f c2 hf
    refine lv_iconst (v := 0) hx hb dX5_execute_8 (by decide) ?_
    refine lv_goto (tgt := 13) hx hb dX5_execute_9 (by decide) ?_
    exact w5_execute_13 X hI hH (lv_sub hl [0] rfl) hf
set_option maxRecDepth 100000 in
set_option maxHeartbeats 4000000 in
theorem c5_execute (l : Launch) {D : va_G} {cI cZ : ClassId} {ad : Nat → Nat} {v0 v1 v2 v3 v4 v5 v6 v7 v8 : Nat → Int32} (hI : mInj ad) (sz : Nat) {t : Int32 × (Nat → Int32) × (Nat → Int32) × (Nat → Int32) × (Nat → Int32) × (Nat → Int32)} (hf : f5_execute_0 v6 v0 v1 v3 v7 v8 = some t) : Met l yX5_execute uX5_execute rm5_execute (va_Pc [.ref (ad 0)] (fun U => U.heap.size = sz ∧ mB D cI cZ ad v0 v1 v2 v3 v4 v5 v6 v7 v8 U)) (va_Qi (fun (r9 : Int32) (_ : Unit) => r9 = t.1) (fun _ t9 => mB D cI cZ ad t.2.1 t.2.2.1 v2 t.2.2.2.1 v4 v5 v6 t.2.2.2.2.1 t.2.2.2.2.2 t9) (mA ad sz)) 0 0 (mA ad sz) := by
  refine Met.ofW (cc := cX5_execute) (maxL := 3) (ret := (some .int)) (by decide) rfl ?_
  intro p e s m args below meth c s₁ B hml hv
  obtain ⟨rfl, hsz, hP, hK⟩ := hv
  subst hsz
  have X : mX D cI cZ p s m ([.ref (ad 0)] : List Value).toArray meth c cX5_execute 3 (some .int) := ⟨⟨B.exec, B.bytes, hml, findClass_of_methodNamed B.named, fun w h => atoms_spec (ws := uX5_execute) B.pre w (List.mem_cons_of_mem _ h)⟩, B.returns, B.notSynchronized, hK⟩
  have hl := lv_entry ([.ref (ad 0)]) (n := 3) (Nat.le_of_ble_eq_true rfl)
  rw [lg_entry_eq]
  generalize (lg_sl ([.ref (ad 0)]) ++ List.replicate (3 - (lg_sl ([.ref (ad 0)])).length) Slot.unset).toArray = ls at hl ⊢
  have hl : lv_has ls 3 [(0, .ref (ad 0))] := hl
  exact w5_execute_0 X hI ⟨hP, va_S.rf⟩ (lv_sub hl [0] rfl) hf
set_option maxRecDepth 100000 in
set_option maxHeartbeats 4000000 in
theorem k5_execute {p : Program} {l : Launch} {e : Env} {R : Room} {s : State} {m : MethodId} {args : Array Value} {below : List Frame} {meth : Method} {c : Code} {cc : ByteArray} {nL : Nat} {ret : Option FieldType} {D : va_G} {cI cZ : ClassId} {ad : Nat → Nat} {v0 v1 v2 v3 v4 v5 v6 v7 v8 : Nat → Int32} {H : Heap} {locs : List Loc} {cells slots : Nat} {Q : State → Prop} {pc : Nat} {ls : Array Slot} {rest : List Value} (X : mX D cI cZ p s m args meth c cc nL ret) (hI : mInj ad) (hH : mH D cI cZ ad v0 v1 v2 v3 v4 v5 v6 v7 v8 s H locs) (hls : ls.size = nL) {index : Nat} (hG : GoodIn gw (wsV RX5 index RX5 yX5_execute uX5_execute)) (hR : rm5_execute.frames + 1 ≤ R.frames ∧ 8 + (3 + 11) + rm5_execute.locals ≤ R.locals) {t : Int32 × (Nat → Int32) × (Nat → Int32) × (Nat → Int32) × (Nat → Int32) × (Nat → Int32)} (hf : f5_execute_0 v6 v0 v1 v3 v7 v8 = some t) (hrest : (rest.map fun v => v.category).sum ≤ 8) (hdg : decode cc pc = .ok (.invokevirtual index, 3)) (hc : cells ≤ R.cells ∧ slots ≤ R.slots) (kk : ∀ (H1 : Heap) (locs1 : List Loc), mH D cI cZ ad t.2.1 t.2.2.1 v2 t.2.2.2.1 v4 v5 v6 t.2.2.2.2.1 t.2.2.2.2.2 s H1 locs1 → W p l e R s m args below meth c H1 locs1 cells slots Q (F0 m (pc + 3) ls (.int t.1 :: rest))) : W p l e R s m args below meth c H locs cells slots Q (F0 m pc ls (.ref (ad 0) :: rest)) := by
  have hA : ∀ q, mA ad H.size q → mA ad s.heap.size q := fun q h => h.elim Or.inl (fun h => Or.inr (Nat.le_trans hH.2.1 h))
  refine va_calli (va_runV (As := []) (rest := rest) X.1 (c5_execute l hI H.size hf) (cwV 0 X.1.2.2.2.2 hG rfl rfl rfl (by decide +kernel) hR) ⟨mBs_bl, va_recv X.2.2.2 hH.1 (ci := 5) (q0 := 0) rfl rfl, fun U hU hW => ⟨rfl, by rw [hU], by rw [hU]; exact hH.1, va_K.moved hW.alike X.2.2.2⟩⟩ rfl rfl hls rfl (lv_room hrest) hdg hc) hH.2 (fun q _ h => hA q h) hA (fun r9 u t9 H1 locs1 ht hvm hw hB hz1 hk1 hS => ?_)
  subst hw
  exact kk H1 locs1 ⟨by rw [← ht]; exact hB.1, hS⟩
/-! OreRailwayModel.undo()I -/
def rm5_undo : Room := { frames := 1, cells := 0, slots := 0, locals := 21 }
def f5_undo_33 (v3 : Nat → Int32) : Nat → Int32 → (Nat → Int32) → (Nat → Int32) → Option (Int32 × (Nat → Int32) × (Nat → Int32))
  | 0, _, _, _ => none
  | n + 1, x1, v0, v1 => if 171 ≤ x1 then (some (v0 3, v0, v1)) else (gd ((171 * (v0 3)) + x1) 1026 (gd x1 171 ((f5_undo_33 v3 n) (x1 + 1) v0 (upd v1 (Int32.toNatClampNeg x1) (v3 (Int32.toNatClampNeg ((171 * (v0 3)) + x1)))))))
set_option maxRecDepth 100000 in
set_option maxHeartbeats 4000000 in
theorem w5_undo_33 {p : Program} {l : Launch} {e : Env} {s : State} {m : MethodId} {args : Array Value} {below : List Frame} {meth : Method} {c : Code} {D : va_G} {cI cZ : ClassId} {ad : Nat → Nat} {v2 v3 v4 v5 v6 v7 v8 : Nat → Int32} (X : mX D cI cZ p s m args meth c cX5_undo 2 (some .int)) (hI : mInj ad) {t : Int32 × (Nat → Int32) × (Nat → Int32)} :
    ∀ (n : Nat) (x1 : Int32) (v0 : Nat → Int32) (v1 : Nat → Int32) (H : Heap) (locs : List Loc), mH D cI cZ ad v0 v1 v2 v3 v4 v5 v6 v7 v8 s H locs → ∀ (ls : Array Slot), lv_has ls 2 [(0, .ref (ad 0)), (1, .int x1)] → f5_undo_33 v3 n x1 v0 v1 = some t → W p l e rm5_undo s m args below meth c H locs 0 0 (MQ below (va_Qi (fun (r9 : Int32) (_ : Unit) => r9 = t.1) (fun _ t9 => mB D cI cZ ad t.2.1 t.2.2 v2 v3 v4 v5 v6 v7 v8 t9) (mA ad s.heap.size)) args s 0 0 (mA ad s.heap.size)) (F0 m 33 ls []) := by
  obtain ⟨⟨hx, hb, hml, hown, hts⟩, hr, hlk, hK⟩ := id X
  intro n
  induction n with
  | zero =>
    intro x1 v0 v1 H locs hH ls hl hf
    cases hf
  | succ n ih =>
    intro x1 v0 v1 H locs hH ls hl hf
    replace hf : (if 171 ≤ x1 then (some (v0 3, v0, v1)) else (gd ((171 * (v0 3)) + x1) 1026 (gd x1 171 ((f5_undo_33 v3 n) (x1 + 1) v0 (upd v1 (Int32.toNatClampNeg x1) (v3 (Int32.toNatClampNeg ((171 * (v0 3)) + x1)))))))) = some t := hf
    refine lv_iload_n hx hb dX5_undo_33 rfl (lv_at hl 1 rfl) ?_
    refine lv_sipush (v := 171) hx hb dX5_undo_34 (by decide) ?_
    refine lv_icmp_ge (tgt := 67) hx hb dX5_undo_37 (by decide) (fun c1 => ?_) (fun c1 => ?_)
    · have hf := it_t c1 hf
      refine lv_aload_n hx hb dX5_undo_67 rfl (lv_at hl 0 rfl) ?_
      refine mr_get X hH.1 (k := 3) (v := .int (v0 3)) (by decide) gfX5_47 rfl dX5_undo_68 ?_
      obtain rfl := so_i hf
      exact mr_iw X hH rfl dX5_undo_71
    · have hf := it_f c1 hf
      refine lv_aload_n hx hb dX5_undo_40 rfl (lv_at hl 0 rfl) ?_
      refine mr_get X hH.1 (k := 0) (v := .ref (ad 1)) (by decide) gfX5_7 rfl dX5_undo_41 ?_
      refine lv_iload_n hx hb dX5_undo_44 rfl (lv_at hl 1 rfl) ?_
      refine lv_aload_n hx hb dX5_undo_45 rfl (lv_at hl 0 rfl) ?_
      refine mr_get X hH.1 (k := 2) (v := .ref (ad 3)) (by decide) gfX5_16 rfl dX5_undo_46 ?_
      refine lv_sipush (v := 171) hx hb dX5_undo_49 (by decide) ?_
      refine lv_aload_n hx hb dX5_undo_52 rfl (lv_at hl 0 rfl) ?_
      refine mr_get X hH.1 (k := 3) (v := .int (v0 3)) (by decide) gfX5_47 rfl dX5_undo_53 ?_
      refine lv_imul hx hb dX5_undo_56 ?_
      refine lv_iload_n hx hb dX5_undo_57 rfl (lv_at hl 1 rfl) ?_
      refine lv_iadd hx hb dX5_undo_58 ?_
      obtain ⟨hi2, hf⟩ := gd_o hf
      refine mr_ld3 X hH.1 hi2 dX5_undo_59 ?_
      obtain ⟨hi3, hf⟩ := gd_o hf
      refine mr_st1 X hI hH hi3 dX5_undo_60 (fun H locs hH => ?_)
      refine lv_iinc (v := x1 + 1) (lv' := [(1, .int (x1 + 1)), (0, .ref (ad 0))]) hx hb dX5_undo_61 hl (k := 1) rfl rfl (by decide) rfl (fun ls hl => ?_)
      refine lv_goto (tgt := 33) hx hb dX5_undo_64 (by decide) ?_
      exact ih _ _ _ _ _ hH _ (lv_sub hl [1, 0] rfl) hf
def f5_undo_13 (v3 : Nat → Int32) (y0 : Int32) (v0 : Nat → Int32) (v1 : Nat → Int32) : Option (Int32 × (Nat → Int32) × (Nat → Int32)) := Option.bind (f5_refused_0 y0 v0) (fun t1 => if t1.1 = 0 then (f5_undo_33 v3 fu 0 (upd t1.2 3 ((t1.2 3) - 1)) v1) else (some (0, t1.2, v1)))
set_option maxRecDepth 100000 in
set_option maxHeartbeats 4000000 in
theorem w5_undo_13 {p : Program} {l : Launch} {e : Env} {s : State} {m : MethodId} {args : Array Value} {below : List Frame} {meth : Method} {c : Code} {D : va_G} {cI cZ : ClassId} {ad : Nat → Nat} {v0 v1 v2 v3 v4 v5 v6 v7 v8 : Nat → Int32} (X : mX D cI cZ p s m args meth c cX5_undo 2 (some .int)) (hI : mInj ad) {y0 : Int32} {t : Int32 × (Nat → Int32) × (Nat → Int32)}  {H : Heap} {locs : List Loc} (hH : mH D cI cZ ad v0 v1 v2 v3 v4 v5 v6 v7 v8 s H locs) {ls : Array Slot} (hl : lv_has ls 2 [(0, .ref (ad 0))]) (hf : f5_undo_13 v3 y0 v0 v1 = some t) : W p l e rm5_undo s m args below meth c H locs 0 0 (MQ below (va_Qi (fun (r9 : Int32) (_ : Unit) => r9 = t.1) (fun _ t9 => mB D cI cZ ad t.2.1 t.2.2 v2 v3 v4 v5 v6 v7 v8 t9) (mA ad s.heap.size)) args s 0 0 (mA ad s.heap.size)) (F0 m 13 ls [.int y0, .ref (ad 0)]) := by
  obtain ⟨⟨hx, hb, hml, hown, hts⟩, hr, hlk, hK⟩ := id X
  replace hf : (Option.bind (f5_refused_0 y0 v0) (fun t1 => if t1.1 = 0 then (f5_undo_33 v3 fu 0 (upd t1.2 3 ((t1.2 3) - 1)) v1) else (some (0, t1.2, v1)))) = some t := hf
  obtain ⟨t1, ht1, hf⟩ := bd_o hf
  refine k5_refused X hI hH hl.1 qX5_50 ⟨Nat.le_of_ble_eq_true rfl, Nat.le_of_ble_eq_true rfl⟩ ht1 (Nat.le_of_ble_eq_true rfl) dX5_undo_13 ⟨Nat.zero_le _, Nat.zero_le _⟩ (fun H locs hH => ?_)
  refine lv_if_eq (tgt := 21) hx hb dX5_undo_16 (by decide) (fun c2 => ?_) (fun c2 => ?_)
  · have hf := it_t c2 hf
    refine lv_aload_n hx hb dX5_undo_21 rfl (lv_at hl 0 rfl) ?_
    refine lv_dup hx hb dX5_undo_22 rfl ?_
    refine mr_get X hH.1 (k := 3) (v := .int (t1.2 3)) (by decide) gfX5_47 rfl dX5_undo_23 ?_
    refine lv_iconst (v := 1) hx hb dX5_undo_26 (by decide) ?_
    refine lv_isub hx hb dX5_undo_27 ?_
    refine mr_put X hI hH 3 (by decide) gfX5_47 rfl rfl dX5_undo_28 (fun H locs hH => ?_)
    refine lv_iconst (v := 0) hx hb dX5_undo_31 (by decide) ?_
    refine lv_istore_n (lv' := [(1, .int 0), (0, .ref (ad 0))]) hx hb dX5_undo_32 rfl hl (by decide) rfl (fun ls hl => ?_)
    exact w5_undo_33 X hI _ _ _ _ _ _ hH _ (lv_sub hl [1, 0] rfl) hf
  · have hf := it_f c2 hf
    refine lv_iconst (v := 0) hx hb dX5_undo_19 (by decide) ?_
    obtain rfl := so_i hf
    exact mr_iw X hH rfl dX5_undo_20
def f5_undo_0 (v3 : Nat → Int32) (v0 : Nat → Int32) (v1 : Nat → Int32) : Option (Int32 × (Nat → Int32) × (Nat → Int32)) := if (v0 3) = 0 then (f5_undo_13 v3 1 v0 v1) else (f5_undo_13 v3 0 v0 v1)
set_option maxRecDepth 100000 in
set_option maxHeartbeats 4000000 in
theorem w5_undo_0 {p : Program} {l : Launch} {e : Env} {s : State} {m : MethodId} {args : Array Value} {below : List Frame} {meth : Method} {c : Code} {D : va_G} {cI cZ : ClassId} {ad : Nat → Nat} {v0 v1 v2 v3 v4 v5 v6 v7 v8 : Nat → Int32} (X : mX D cI cZ p s m args meth c cX5_undo 2 (some .int)) (hI : mInj ad) {t : Int32 × (Nat → Int32) × (Nat → Int32)}  {H : Heap} {locs : List Loc} (hH : mH D cI cZ ad v0 v1 v2 v3 v4 v5 v6 v7 v8 s H locs) {ls : Array Slot} (hl : lv_has ls 2 [(0, .ref (ad 0))]) (hf : f5_undo_0 v3 v0 v1 = some t) : W p l e rm5_undo s m args below meth c H locs 0 0 (MQ below (va_Qi (fun (r9 : Int32) (_ : Unit) => r9 = t.1) (fun _ t9 => mB D cI cZ ad t.2.1 t.2.2 v2 v3 v4 v5 v6 v7 v8 t9) (mA ad s.heap.size)) args s 0 0 (mA ad s.heap.size)) (F0 m 0 ls []) := by
  obtain ⟨⟨hx, hb, hml, hown, hts⟩, hr, hlk, hK⟩ := id X
  replace hf : (if (v0 3) = 0 then (f5_undo_13 v3 1 v0 v1) else (f5_undo_13 v3 0 v0 v1)) = some t := hf
  refine lv_aload_n hx hb dX5_undo_0 rfl (lv_at hl 0 rfl) ?_
  refine lv_aload_n hx hb dX5_undo_1 rfl (lv_at hl 0 rfl) ?_
  refine mr_get X hH.1 (k := 3) (v := .int (v0 3)) (by decide) gfX5_47 rfl dX5_undo_2 ?_
  refine lv_if_ne (tgt := 12) hx hb dX5_undo_5 (by decide) (fun c1 => ?_) (fun c1 => ?_)
  · have hf := it_f c1 hf
    refine lv_iconst (v := 0) hx hb dX5_undo_12 (by decide) ?_
    exact w5_undo_13 X hI hH (lv_sub hl [0] rfl) hf
  · have hf := it_t c1 hf
    refine lv_iconst (v := 1) hx hb dX5_undo_8 (by decide) ?_
    refine lv_goto (tgt := 13) hx hb dX5_undo_9 (by decide) ?_
    exact w5_undo_13 X hI hH (lv_sub hl [0] rfl) hf
set_option maxRecDepth 100000 in
set_option maxHeartbeats 4000000 in
theorem c5_undo (l : Launch) {D : va_G} {cI cZ : ClassId} {ad : Nat → Nat} {v0 v1 v2 v3 v4 v5 v6 v7 v8 : Nat → Int32} (hI : mInj ad) (sz : Nat) {t : Int32 × (Nat → Int32) × (Nat → Int32)} (hf : f5_undo_0 v3 v0 v1 = some t) : Met l yX5_undo uX5_undo rm5_undo (va_Pc [.ref (ad 0)] (fun U => U.heap.size = sz ∧ mB D cI cZ ad v0 v1 v2 v3 v4 v5 v6 v7 v8 U)) (va_Qi (fun (r9 : Int32) (_ : Unit) => r9 = t.1) (fun _ t9 => mB D cI cZ ad t.2.1 t.2.2 v2 v3 v4 v5 v6 v7 v8 t9) (mA ad sz)) 0 0 (mA ad sz) := by
  refine Met.ofW (cc := cX5_undo) (maxL := 2) (ret := (some .int)) (by decide) rfl ?_
  intro p e s m args below meth c s₁ B hml hv
  obtain ⟨rfl, hsz, hP, hK⟩ := hv
  subst hsz
  have X : mX D cI cZ p s m ([.ref (ad 0)] : List Value).toArray meth c cX5_undo 2 (some .int) := ⟨⟨B.exec, B.bytes, hml, findClass_of_methodNamed B.named, fun w h => atoms_spec (ws := uX5_undo) B.pre w (List.mem_cons_of_mem _ h)⟩, B.returns, B.notSynchronized, hK⟩
  have hl := lv_entry ([.ref (ad 0)]) (n := 2) (Nat.le_of_ble_eq_true rfl)
  rw [lg_entry_eq]
  generalize (lg_sl ([.ref (ad 0)]) ++ List.replicate (2 - (lg_sl ([.ref (ad 0)])).length) Slot.unset).toArray = ls at hl ⊢
  have hl : lv_has ls 2 [(0, .ref (ad 0))] := hl
  exact w5_undo_0 X hI ⟨hP, va_S.rf⟩ (lv_sub hl [0] rfl) hf
set_option maxRecDepth 100000 in
set_option maxHeartbeats 4000000 in
theorem k5_undo {p : Program} {l : Launch} {e : Env} {R : Room} {s : State} {m : MethodId} {args : Array Value} {below : List Frame} {meth : Method} {c : Code} {cc : ByteArray} {nL : Nat} {ret : Option FieldType} {D : va_G} {cI cZ : ClassId} {ad : Nat → Nat} {v0 v1 v2 v3 v4 v5 v6 v7 v8 : Nat → Int32} {H : Heap} {locs : List Loc} {cells slots : Nat} {Q : State → Prop} {pc : Nat} {ls : Array Slot} {rest : List Value} (X : mX D cI cZ p s m args meth c cc nL ret) (hI : mInj ad) (hH : mH D cI cZ ad v0 v1 v2 v3 v4 v5 v6 v7 v8 s H locs) (hls : ls.size = nL) {index : Nat} (hG : GoodIn gw (wsV RX5 index RX5 yX5_undo uX5_undo)) (hR : rm5_undo.frames + 1 ≤ R.frames ∧ 8 + (2 + 11) + rm5_undo.locals ≤ R.locals) {t : Int32 × (Nat → Int32) × (Nat → Int32)} (hf : f5_undo_0 v3 v0 v1 = some t) (hrest : (rest.map fun v => v.category).sum ≤ 8) (hdg : decode cc pc = .ok (.invokevirtual index, 3)) (hc : cells ≤ R.cells ∧ slots ≤ R.slots) (kk : ∀ (H1 : Heap) (locs1 : List Loc), mH D cI cZ ad t.2.1 t.2.2 v2 v3 v4 v5 v6 v7 v8 s H1 locs1 → W p l e R s m args below meth c H1 locs1 cells slots Q (F0 m (pc + 3) ls (.int t.1 :: rest))) : W p l e R s m args below meth c H locs cells slots Q (F0 m pc ls (.ref (ad 0) :: rest)) := by
  have hA : ∀ q, mA ad H.size q → mA ad s.heap.size q := fun q h => h.elim Or.inl (fun h => Or.inr (Nat.le_trans hH.2.1 h))
  refine va_calli (va_runV (As := []) (rest := rest) X.1 (c5_undo l hI H.size hf) (cwV 0 X.1.2.2.2.2 hG rfl rfl rfl (by decide +kernel) hR) ⟨mBs_bl, va_recv X.2.2.2 hH.1 (ci := 5) (q0 := 0) rfl rfl, fun U hU hW => ⟨rfl, by rw [hU], by rw [hU]; exact hH.1, va_K.moved hW.alike X.2.2.2⟩⟩ rfl rfl hls rfl (lv_room hrest) hdg hc) hH.2 (fun q _ h => hA q h) hA (fun r9 u t9 H1 locs1 ht hvm hw hB hz1 hk1 hS => ?_)
  subst hw
  exact kk H1 locs1 ⟨by rw [← ht]; exact hB.1, hS⟩
/-! OreRailwayModel.keep(I)I -/
def rm5_keep : Room := { frames := 1, cells := 0, slots := 0, locals := 22 }
def f5_keep_25 (v1 : Nat → Int32) : Nat → Int32 → Int32 → (Nat → Int32) → (Nat → Int32) → (Nat → Int32) → Option (Int32 × (Nat → Int32) × (Nat → Int32) × (Nat → Int32))
  | 0, _, _, _, _, _ => none
  | n + 1, x1, x2, v0, v4, v5 => if 171 ≤ x2 then (gd x1 2 (gd 163 171 (some (v1 (Int32.toNatClampNeg 163), v0, v4, upd v5 (Int32.toNatClampNeg x1) (vp_nar .boolean 1))))) else (gd x2 171 (gd ((171 * x1) + x2) 342 ((f5_keep_25 v1 n) x1 (x2 + 1) v0 (upd v4 (Int32.toNatClampNeg ((171 * x1) + x2)) (v1 (Int32.toNatClampNeg x2))) v5)))
set_option maxRecDepth 100000 in
set_option maxHeartbeats 4000000 in
theorem w5_keep_25 {p : Program} {l : Launch} {e : Env} {s : State} {m : MethodId} {args : Array Value} {below : List Frame} {meth : Method} {c : Code} {D : va_G} {cI cZ : ClassId} {ad : Nat → Nat} {v1 v2 v3 v6 v7 v8 : Nat → Int32} (X : mX D cI cZ p s m args meth c cX5_keep 3 (some .int)) (hI : mInj ad) {t : Int32 × (Nat → Int32) × (Nat → Int32) × (Nat → Int32)} :
    ∀ (n : Nat) (x1 : Int32) (x2 : Int32) (v0 : Nat → Int32) (v4 : Nat → Int32) (v5 : Nat → Int32) (H : Heap) (locs : List Loc), mH D cI cZ ad v0 v1 v2 v3 v4 v5 v6 v7 v8 s H locs → ∀ (ls : Array Slot), lv_has ls 3 [(0, .ref (ad 0)), (1, .int x1), (2, .int x2)] → f5_keep_25 v1 n x1 x2 v0 v4 v5 = some t → W p l e rm5_keep s m args below meth c H locs 0 0 (MQ below (va_Qi (fun (r9 : Int32) (_ : Unit) => r9 = t.1) (fun _ t9 => mB D cI cZ ad t.2.1 v1 v2 v3 t.2.2.1 t.2.2.2 v6 v7 v8 t9) (mA ad s.heap.size)) args s 0 0 (mA ad s.heap.size)) (F0 m 25 ls []) := by
  obtain ⟨⟨hx, hb, hml, hown, hts⟩, hr, hlk, hK⟩ := id X
  intro n
  induction n with
  | zero =>
    intro x1 x2 v0 v4 v5 H locs hH ls hl hf
    cases hf
  | succ n ih =>
    intro x1 x2 v0 v4 v5 H locs hH ls hl hf
    replace hf : (if 171 ≤ x2 then (gd x1 2 (gd 163 171 (some (v1 (Int32.toNatClampNeg 163), v0, v4, upd v5 (Int32.toNatClampNeg x1) (vp_nar .boolean 1))))) else (gd x2 171 (gd ((171 * x1) + x2) 342 ((f5_keep_25 v1 n) x1 (x2 + 1) v0 (upd v4 (Int32.toNatClampNeg ((171 * x1) + x2)) (v1 (Int32.toNatClampNeg x2))) v5)))) = some t := hf
    refine lv_iload_n hx hb dX5_keep_25 rfl (lv_at hl 2 rfl) ?_
    refine lv_sipush (v := 171) hx hb dX5_keep_26 (by decide) ?_
    refine lv_icmp_ge (tgt := 56) hx hb dX5_keep_29 (by decide) (fun c1 => ?_) (fun c1 => ?_)
    · have hf := it_t c1 hf
      refine lv_aload_n hx hb dX5_keep_56 rfl (lv_at hl 0 rfl) ?_
      refine mr_get X hH.1 (k := 5) (v := .ref (ad 5)) (by decide) gfX5_22 rfl dX5_keep_57 ?_
      refine lv_iload_n hx hb dX5_keep_60 rfl (lv_at hl 1 rfl) ?_
      refine lv_iconst (v := 1) hx hb dX5_keep_61 (by decide) ?_
      obtain ⟨hi2, hf⟩ := gd_o hf
      refine mr_st5 X hI hH hi2 dX5_keep_62 (fun H locs hH => ?_)
      refine lv_aload_n hx hb dX5_keep_63 rfl (lv_at hl 0 rfl) ?_
      refine mr_get X hH.1 (k := 0) (v := .ref (ad 1)) (by decide) gfX5_7 rfl dX5_keep_64 ?_
      refine lv_sipush (v := 163) hx hb dX5_keep_67 (by decide) ?_
      obtain ⟨hi3, hf⟩ := gd_o hf
      refine mr_ld1 X hH.1 hi3 dX5_keep_70 ?_
      obtain rfl := so_i hf
      exact mr_iw X hH rfl dX5_keep_71
    · have hf := it_f c1 hf
      refine lv_aload_n hx hb dX5_keep_32 rfl (lv_at hl 0 rfl) ?_
      refine mr_get X hH.1 (k := 4) (v := .ref (ad 4)) (by decide) gfX5_19 rfl dX5_keep_33 ?_
      refine lv_sipush (v := 171) hx hb dX5_keep_36 (by decide) ?_
      refine lv_iload_n hx hb dX5_keep_39 rfl (lv_at hl 1 rfl) ?_
      refine lv_imul hx hb dX5_keep_40 ?_
      refine lv_iload_n hx hb dX5_keep_41 rfl (lv_at hl 2 rfl) ?_
      refine lv_iadd hx hb dX5_keep_42 ?_
      refine lv_aload_n hx hb dX5_keep_43 rfl (lv_at hl 0 rfl) ?_
      refine mr_get X hH.1 (k := 0) (v := .ref (ad 1)) (by decide) gfX5_7 rfl dX5_keep_44 ?_
      refine lv_iload_n hx hb dX5_keep_47 rfl (lv_at hl 2 rfl) ?_
      obtain ⟨hi4, hf⟩ := gd_o hf
      refine mr_ld1 X hH.1 hi4 dX5_keep_48 ?_
      obtain ⟨hi5, hf⟩ := gd_o hf
      refine mr_st4 X hI hH hi5 dX5_keep_49 (fun H locs hH => ?_)
      refine lv_iinc (v := x2 + 1) (lv' := [(2, .int (x2 + 1)), (0, .ref (ad 0)), (1, .int x1)]) hx hb dX5_keep_50 hl (k := 2) rfl rfl (by decide) rfl (fun ls hl => ?_)
      refine lv_goto (tgt := 25) hx hb dX5_keep_53 (by decide) ?_
      exact ih _ _ _ _ _ _ _ hH _ (lv_sub hl [1, 2, 0] rfl) hf
def f5_keep_15 (v1 : Nat → Int32) (x1 : Int32) (y0 : Int32) (v0 : Nat → Int32) (v4 : Nat → Int32) (v5 : Nat → Int32) : Option (Int32 × (Nat → Int32) × (Nat → Int32) × (Nat → Int32)) := Option.bind (f5_refused_0 y0 v0) (fun t1 => if t1.1 = 0 then (f5_keep_25 v1 fu x1 0 t1.2 v4 v5) else (some (0, t1.2, v4, v5)))
set_option maxRecDepth 100000 in
set_option maxHeartbeats 4000000 in
theorem w5_keep_15 {p : Program} {l : Launch} {e : Env} {s : State} {m : MethodId} {args : Array Value} {below : List Frame} {meth : Method} {c : Code} {D : va_G} {cI cZ : ClassId} {ad : Nat → Nat} {v0 v1 v2 v3 v4 v5 v6 v7 v8 : Nat → Int32} (X : mX D cI cZ p s m args meth c cX5_keep 3 (some .int)) (hI : mInj ad) {x1 : Int32} {y0 : Int32} {t : Int32 × (Nat → Int32) × (Nat → Int32) × (Nat → Int32)}  {H : Heap} {locs : List Loc} (hH : mH D cI cZ ad v0 v1 v2 v3 v4 v5 v6 v7 v8 s H locs) {ls : Array Slot} (hl : lv_has ls 3 [(0, .ref (ad 0)), (1, .int x1)]) (hf : f5_keep_15 v1 x1 y0 v0 v4 v5 = some t) : W p l e rm5_keep s m args below meth c H locs 0 0 (MQ below (va_Qi (fun (r9 : Int32) (_ : Unit) => r9 = t.1) (fun _ t9 => mB D cI cZ ad t.2.1 v1 v2 v3 t.2.2.1 t.2.2.2 v6 v7 v8 t9) (mA ad s.heap.size)) args s 0 0 (mA ad s.heap.size)) (F0 m 15 ls [.int y0, .ref (ad 0)]) := by
  obtain ⟨⟨hx, hb, hml, hown, hts⟩, hr, hlk, hK⟩ := id X
  replace hf : (Option.bind (f5_refused_0 y0 v0) (fun t1 => if t1.1 = 0 then (f5_keep_25 v1 fu x1 0 t1.2 v4 v5) else (some (0, t1.2, v4, v5)))) = some t := hf
  obtain ⟨t1, ht1, hf⟩ := bd_o hf
  refine k5_refused X hI hH hl.1 qX5_50 ⟨Nat.le_of_ble_eq_true rfl, Nat.le_of_ble_eq_true rfl⟩ ht1 (Nat.le_of_ble_eq_true rfl) dX5_keep_15 ⟨Nat.zero_le _, Nat.zero_le _⟩ (fun H locs hH => ?_)
  refine lv_if_eq (tgt := 23) hx hb dX5_keep_18 (by decide) (fun c2 => ?_) (fun c2 => ?_)
  · have hf := it_t c2 hf
    refine lv_iconst (v := 0) hx hb dX5_keep_23 (by decide) ?_
    refine lv_istore_n (lv' := [(2, .int 0), (0, .ref (ad 0)), (1, .int x1)]) hx hb dX5_keep_24 rfl hl (by decide) rfl (fun ls hl => ?_)
    exact w5_keep_25 X hI _ _ _ _ _ _ _ _ hH _ (lv_sub hl [1, 2, 0] rfl) hf
  · have hf := it_f c2 hf
    refine lv_iconst (v := 0) hx hb dX5_keep_21 (by decide) ?_
    obtain rfl := so_i hf
    exact mr_iw X hH rfl dX5_keep_22
def f5_keep_0 (v1 : Nat → Int32) (x1 : Int32) (v0 : Nat → Int32) (v4 : Nat → Int32) (v5 : Nat → Int32) : Option (Int32 × (Nat → Int32) × (Nat → Int32) × (Nat → Int32)) := Option.bind (f5_in_0 x1 0 1) (fun t1 => if t1 = 0 then (f5_keep_15 v1 x1 1 v0 v4 v5) else (f5_keep_15 v1 x1 0 v0 v4 v5))
set_option maxRecDepth 100000 in
set_option maxHeartbeats 4000000 in
theorem w5_keep_0 {p : Program} {l : Launch} {e : Env} {s : State} {m : MethodId} {args : Array Value} {below : List Frame} {meth : Method} {c : Code} {D : va_G} {cI cZ : ClassId} {ad : Nat → Nat} {v0 v1 v2 v3 v4 v5 v6 v7 v8 : Nat → Int32} (X : mX D cI cZ p s m args meth c cX5_keep 3 (some .int)) (hI : mInj ad) {x1 : Int32} {t : Int32 × (Nat → Int32) × (Nat → Int32) × (Nat → Int32)}  {H : Heap} {locs : List Loc} (hH : mH D cI cZ ad v0 v1 v2 v3 v4 v5 v6 v7 v8 s H locs) {ls : Array Slot} (hl : lv_has ls 3 [(0, .ref (ad 0)), (1, .int x1)]) (hf : f5_keep_0 v1 x1 v0 v4 v5 = some t) : W p l e rm5_keep s m args below meth c H locs 0 0 (MQ below (va_Qi (fun (r9 : Int32) (_ : Unit) => r9 = t.1) (fun _ t9 => mB D cI cZ ad t.2.1 v1 v2 v3 t.2.2.1 t.2.2.2 v6 v7 v8 t9) (mA ad s.heap.size)) args s 0 0 (mA ad s.heap.size)) (F0 m 0 ls []) := by
  obtain ⟨⟨hx, hb, hml, hown, hts⟩, hr, hlk, hK⟩ := id X
  replace hf : (Option.bind (f5_in_0 x1 0 1) (fun t1 => if t1 = 0 then (f5_keep_15 v1 x1 1 v0 v4 v5) else (f5_keep_15 v1 x1 0 v0 v4 v5))) = some t := hf
  refine lv_aload_n hx hb dX5_keep_0 rfl (lv_at hl 0 rfl) ?_
  refine lv_iload_n hx hb dX5_keep_1 rfl (lv_at hl 1 rfl) ?_
  refine lv_iconst (v := 0) hx hb dX5_keep_2 (by decide) ?_
  refine lv_iconst (v := 1) hx hb dX5_keep_3 (by decide) ?_
  obtain ⟨t1, ht1, hf⟩ := bd_o hf
  refine k5_in X.1 hl.1 qX5_39 ⟨Nat.le_of_ble_eq_true rfl, Nat.le_of_ble_eq_true rfl⟩ ht1 (Nat.le_of_ble_eq_true rfl) dX5_keep_4 ⟨Nat.zero_le _, Nat.zero_le _⟩ ?_
  refine lv_if_eq (tgt := 14) hx hb dX5_keep_7 (by decide) (fun c2 => ?_) (fun c2 => ?_)
  · have hf := it_t c2 hf
    refine lv_iconst (v := 1) hx hb dX5_keep_14 (by decide) ?_
    exact w5_keep_15 X hI hH (lv_sub hl [0, 1] rfl) hf
  · have hf := it_f c2 hf
    refine lv_iconst (v := 0) hx hb dX5_keep_10 (by decide) ?_
    refine lv_goto (tgt := 15) hx hb dX5_keep_11 (by decide) ?_
    exact w5_keep_15 X hI hH (lv_sub hl [0, 1] rfl) hf
set_option maxRecDepth 100000 in
set_option maxHeartbeats 4000000 in
theorem c5_keep (l : Launch) {D : va_G} {cI cZ : ClassId} {ad : Nat → Nat} {v0 v1 v2 v3 v4 v5 v6 v7 v8 : Nat → Int32} (hI : mInj ad) (sz : Nat) (x1 : Int32) {t : Int32 × (Nat → Int32) × (Nat → Int32) × (Nat → Int32)} (hf : f5_keep_0 v1 x1 v0 v4 v5 = some t) : Met l yX5_keep uX5_keep rm5_keep (va_Pc [.ref (ad 0), .int x1] (fun U => U.heap.size = sz ∧ mB D cI cZ ad v0 v1 v2 v3 v4 v5 v6 v7 v8 U)) (va_Qi (fun (r9 : Int32) (_ : Unit) => r9 = t.1) (fun _ t9 => mB D cI cZ ad t.2.1 v1 v2 v3 t.2.2.1 t.2.2.2 v6 v7 v8 t9) (mA ad sz)) 0 0 (mA ad sz) := by
  refine Met.ofW (cc := cX5_keep) (maxL := 3) (ret := (some .int)) (by decide) rfl ?_
  intro p e s m args below meth c s₁ B hml hv
  obtain ⟨rfl, hsz, hP, hK⟩ := hv
  subst hsz
  have X : mX D cI cZ p s m ([.ref (ad 0), .int x1] : List Value).toArray meth c cX5_keep 3 (some .int) := ⟨⟨B.exec, B.bytes, hml, findClass_of_methodNamed B.named, fun w h => atoms_spec (ws := uX5_keep) B.pre w (List.mem_cons_of_mem _ h)⟩, B.returns, B.notSynchronized, hK⟩
  have hl := lv_entry ([.ref (ad 0), .int x1]) (n := 3) (Nat.le_of_ble_eq_true rfl)
  rw [lg_entry_eq]
  generalize (lg_sl ([.ref (ad 0), .int x1]) ++ List.replicate (3 - (lg_sl ([.ref (ad 0), .int x1])).length) Slot.unset).toArray = ls at hl ⊢
  have hl : lv_has ls 3 [(0, .ref (ad 0)), (1, .int x1)] := hl
  exact w5_keep_0 X hI ⟨hP, va_S.rf⟩ (lv_sub hl [0, 1] rfl) hf
set_option maxRecDepth 100000 in
set_option maxHeartbeats 4000000 in
theorem k5_keep {p : Program} {l : Launch} {e : Env} {R : Room} {s : State} {m : MethodId} {args : Array Value} {below : List Frame} {meth : Method} {c : Code} {cc : ByteArray} {nL : Nat} {ret : Option FieldType} {D : va_G} {cI cZ : ClassId} {ad : Nat → Nat} {v0 v1 v2 v3 v4 v5 v6 v7 v8 : Nat → Int32} {H : Heap} {locs : List Loc} {cells slots : Nat} {Q : State → Prop} {pc : Nat} {ls : Array Slot} {rest : List Value} (X : mX D cI cZ p s m args meth c cc nL ret) (hI : mInj ad) (hH : mH D cI cZ ad v0 v1 v2 v3 v4 v5 v6 v7 v8 s H locs) (hls : ls.size = nL) {index : Nat} (hG : GoodIn gw (wsV RX5 index RX5 yX5_keep uX5_keep)) (hR : rm5_keep.frames + 1 ≤ R.frames ∧ 8 + (3 + 11) + rm5_keep.locals ≤ R.locals) {x1 : Int32} {t : Int32 × (Nat → Int32) × (Nat → Int32) × (Nat → Int32)} (hf : f5_keep_0 v1 x1 v0 v4 v5 = some t) (hrest : (rest.map fun v => v.category).sum ≤ 8) (hdg : decode cc pc = .ok (.invokevirtual index, 3)) (hc : cells ≤ R.cells ∧ slots ≤ R.slots) (kk : ∀ (H1 : Heap) (locs1 : List Loc), mH D cI cZ ad t.2.1 v1 v2 v3 t.2.2.1 t.2.2.2 v6 v7 v8 s H1 locs1 → W p l e R s m args below meth c H1 locs1 cells slots Q (F0 m (pc + 3) ls (.int t.1 :: rest))) : W p l e R s m args below meth c H locs cells slots Q (F0 m pc ls (.int x1 :: .ref (ad 0) :: rest)) := by
  have hA : ∀ q, mA ad H.size q → mA ad s.heap.size q := fun q h => h.elim Or.inl (fun h => Or.inr (Nat.le_trans hH.2.1 h))
  refine va_calli (va_runV (As := [.int x1]) (rest := rest) X.1 (c5_keep l hI H.size x1 hf) (cwV 1 X.1.2.2.2.2 hG rfl rfl rfl (by decide +kernel) hR) ⟨mBs_bl, va_recv X.2.2.2 hH.1 (ci := 5) (q0 := 0) rfl rfl, fun U hU hW => ⟨rfl, by rw [hU], by rw [hU]; exact hH.1, va_K.moved hW.alike X.2.2.2⟩⟩ rfl rfl hls rfl (lv_room hrest) hdg hc) hH.2 (fun q _ h => hA q h) hA (fun r9 u t9 H1 locs1 ht hvm hw hB hz1 hk1 hS => ?_)
  subst hw
  exact kk H1 locs1 ⟨by rw [← ht]; exact hB.1, hS⟩
/-! OreRailwayModel.goBack(I)I -/
def rm5_goBack : Room := { frames := 1, cells := 0, slots := 0, locals := 22 }
def f5_goBack_42 (v4 : Nat → Int32) (v5 : Nat → Int32) : Nat → Int32 → Int32 → (Nat → Int32) → (Nat → Int32) → (Nat → Int32) → Option (Int32 × (Nat → Int32) × (Nat → Int32) × (Nat → Int32))
  | 0, _, _, _, _, _ => none
  | n + 1, x1, x2, v0, v1, v3 => if 171 ≤ x2 then (gd 163 171 (some (v1 (Int32.toNatClampNeg 163), v0, v1, v3))) else (gd ((171 * x1) + x2) 342 (gd x2 171 ((f5_goBack_42 v4 v5 n) x1 (x2 + 1) v0 (upd v1 (Int32.toNatClampNeg x2) (v4 (Int32.toNatClampNeg ((171 * x1) + x2)))) v3)))
set_option maxRecDepth 100000 in
set_option maxHeartbeats 4000000 in
theorem w5_goBack_42 {p : Program} {l : Launch} {e : Env} {s : State} {m : MethodId} {args : Array Value} {below : List Frame} {meth : Method} {c : Code} {D : va_G} {cI cZ : ClassId} {ad : Nat → Nat} {v2 v4 v5 v6 v7 v8 : Nat → Int32} (X : mX D cI cZ p s m args meth c cX5_goBack 3 (some .int)) (hI : mInj ad) {t : Int32 × (Nat → Int32) × (Nat → Int32) × (Nat → Int32)} :
    ∀ (n : Nat) (x1 : Int32) (x2 : Int32) (v0 : Nat → Int32) (v1 : Nat → Int32) (v3 : Nat → Int32) (H : Heap) (locs : List Loc), mH D cI cZ ad v0 v1 v2 v3 v4 v5 v6 v7 v8 s H locs → ∀ (ls : Array Slot), lv_has ls 3 [(0, .ref (ad 0)), (1, .int x1), (2, .int x2)] → f5_goBack_42 v4 v5 n x1 x2 v0 v1 v3 = some t → W p l e rm5_goBack s m args below meth c H locs 0 0 (MQ below (va_Qi (fun (r9 : Int32) (_ : Unit) => r9 = t.1) (fun _ t9 => mB D cI cZ ad t.2.1 t.2.2.1 v2 t.2.2.2 v4 v5 v6 v7 v8 t9) (mA ad s.heap.size)) args s 0 0 (mA ad s.heap.size)) (F0 m 42 ls []) := by
  obtain ⟨⟨hx, hb, hml, hown, hts⟩, hr, hlk, hK⟩ := id X
  intro n
  induction n with
  | zero =>
    intro x1 x2 v0 v1 v3 H locs hH ls hl hf
    cases hf
  | succ n ih =>
    intro x1 x2 v0 v1 v3 H locs hH ls hl hf
    replace hf : (if 171 ≤ x2 then (gd 163 171 (some (v1 (Int32.toNatClampNeg 163), v0, v1, v3))) else (gd ((171 * x1) + x2) 342 (gd x2 171 ((f5_goBack_42 v4 v5 n) x1 (x2 + 1) v0 (upd v1 (Int32.toNatClampNeg x2) (v4 (Int32.toNatClampNeg ((171 * x1) + x2)))) v3)))) = some t := hf
    refine lv_iload_n hx hb dX5_goBack_42 rfl (lv_at hl 2 rfl) ?_
    refine lv_sipush (v := 171) hx hb dX5_goBack_43 (by decide) ?_
    refine lv_icmp_ge (tgt := 73) hx hb dX5_goBack_46 (by decide) (fun c1 => ?_) (fun c1 => ?_)
    · have hf := it_t c1 hf
      refine lv_aload_n hx hb dX5_goBack_73 rfl (lv_at hl 0 rfl) ?_
      refine mr_get X hH.1 (k := 0) (v := .ref (ad 1)) (by decide) gfX5_7 rfl dX5_goBack_74 ?_
      refine lv_sipush (v := 163) hx hb dX5_goBack_77 (by decide) ?_
      obtain ⟨hi2, hf⟩ := gd_o hf
      refine mr_ld1 X hH.1 hi2 dX5_goBack_80 ?_
      obtain rfl := so_i hf
      exact mr_iw X hH rfl dX5_goBack_81
    · have hf := it_f c1 hf
      refine lv_aload_n hx hb dX5_goBack_49 rfl (lv_at hl 0 rfl) ?_
      refine mr_get X hH.1 (k := 0) (v := .ref (ad 1)) (by decide) gfX5_7 rfl dX5_goBack_50 ?_
      refine lv_iload_n hx hb dX5_goBack_53 rfl (lv_at hl 2 rfl) ?_
      refine lv_aload_n hx hb dX5_goBack_54 rfl (lv_at hl 0 rfl) ?_
      refine mr_get X hH.1 (k := 4) (v := .ref (ad 4)) (by decide) gfX5_19 rfl dX5_goBack_55 ?_
      refine lv_sipush (v := 171) hx hb dX5_goBack_58 (by decide) ?_
      refine lv_iload_n hx hb dX5_goBack_61 rfl (lv_at hl 1 rfl) ?_
      refine lv_imul hx hb dX5_goBack_62 ?_
      refine lv_iload_n hx hb dX5_goBack_63 rfl (lv_at hl 2 rfl) ?_
      refine lv_iadd hx hb dX5_goBack_64 ?_
      obtain ⟨hi3, hf⟩ := gd_o hf
      refine mr_ld4 X hH.1 hi3 dX5_goBack_65 ?_
      obtain ⟨hi4, hf⟩ := gd_o hf
      refine mr_st1 X hI hH hi4 dX5_goBack_66 (fun H locs hH => ?_)
      refine lv_iinc (v := x2 + 1) (lv' := [(2, .int (x2 + 1)), (0, .ref (ad 0)), (1, .int x1)]) hx hb dX5_goBack_67 hl (k := 2) rfl rfl (by decide) rfl (fun ls hl => ?_)
      refine lv_goto (tgt := 42) hx hb dX5_goBack_70 (by decide) ?_
      exact ih _ _ _ _ _ _ _ hH _ (lv_sub hl [1, 2, 0] rfl) hf
def f5_goBack_28 (v4 : Nat → Int32) (v5 : Nat → Int32) (x1 : Int32) (y0 : Int32) (v0 : Nat → Int32) (v1 : Nat → Int32) (v3 : Nat → Int32) : Option (Int32 × (Nat → Int32) × (Nat → Int32) × (Nat → Int32)) := Option.bind (f5_refused_0 y0 v0) (fun t1 => if t1.1 = 0 then (Option.bind (f5_saves_0 v1 t1.2 v3) (fun t3 => f5_goBack_42 v4 v5 fu x1 0 t3.1 v1 t3.2)) else (some (0, t1.2, v1, v3)))
set_option maxRecDepth 100000 in
set_option maxHeartbeats 4000000 in
theorem w5_goBack_28 {p : Program} {l : Launch} {e : Env} {s : State} {m : MethodId} {args : Array Value} {below : List Frame} {meth : Method} {c : Code} {D : va_G} {cI cZ : ClassId} {ad : Nat → Nat} {v0 v1 v2 v3 v4 v5 v6 v7 v8 : Nat → Int32} (X : mX D cI cZ p s m args meth c cX5_goBack 3 (some .int)) (hI : mInj ad) {x1 : Int32} {y0 : Int32} {t : Int32 × (Nat → Int32) × (Nat → Int32) × (Nat → Int32)}  {H : Heap} {locs : List Loc} (hH : mH D cI cZ ad v0 v1 v2 v3 v4 v5 v6 v7 v8 s H locs) {ls : Array Slot} (hl : lv_has ls 3 [(0, .ref (ad 0)), (1, .int x1)]) (hf : f5_goBack_28 v4 v5 x1 y0 v0 v1 v3 = some t) : W p l e rm5_goBack s m args below meth c H locs 0 0 (MQ below (va_Qi (fun (r9 : Int32) (_ : Unit) => r9 = t.1) (fun _ t9 => mB D cI cZ ad t.2.1 t.2.2.1 v2 t.2.2.2 v4 v5 v6 v7 v8 t9) (mA ad s.heap.size)) args s 0 0 (mA ad s.heap.size)) (F0 m 28 ls [.int y0, .ref (ad 0)]) := by
  obtain ⟨⟨hx, hb, hml, hown, hts⟩, hr, hlk, hK⟩ := id X
  replace hf : (Option.bind (f5_refused_0 y0 v0) (fun t1 => if t1.1 = 0 then (Option.bind (f5_saves_0 v1 t1.2 v3) (fun t3 => f5_goBack_42 v4 v5 fu x1 0 t3.1 v1 t3.2)) else (some (0, t1.2, v1, v3)))) = some t := hf
  obtain ⟨t1, ht1, hf⟩ := bd_o hf
  refine k5_refused X hI hH hl.1 qX5_50 ⟨Nat.le_of_ble_eq_true rfl, Nat.le_of_ble_eq_true rfl⟩ ht1 (Nat.le_of_ble_eq_true rfl) dX5_goBack_28 ⟨Nat.zero_le _, Nat.zero_le _⟩ (fun H locs hH => ?_)
  refine lv_if_eq (tgt := 36) hx hb dX5_goBack_31 (by decide) (fun c2 => ?_) (fun c2 => ?_)
  · have hf := it_t c2 hf
    refine lv_aload_n hx hb dX5_goBack_36 rfl (lv_at hl 0 rfl) ?_
    obtain ⟨t3, ht3, hf⟩ := bd_o hf
    refine k5_saves X hI hH hl.1 qX5_54 ⟨Nat.le_of_ble_eq_true rfl, Nat.le_of_ble_eq_true rfl⟩ ht3 (Nat.le_of_ble_eq_true rfl) dX5_goBack_37 ⟨Nat.zero_le _, Nat.zero_le _⟩ (fun H locs hH => ?_)
    refine lv_iconst (v := 0) hx hb dX5_goBack_40 (by decide) ?_
    refine lv_istore_n (lv' := [(2, .int 0), (0, .ref (ad 0)), (1, .int x1)]) hx hb dX5_goBack_41 rfl hl (by decide) rfl (fun ls hl => ?_)
    exact w5_goBack_42 X hI _ _ _ _ _ _ _ _ hH _ (lv_sub hl [1, 2, 0] rfl) hf
  · have hf := it_f c2 hf
    refine lv_iconst (v := 0) hx hb dX5_goBack_34 (by decide) ?_
    obtain rfl := so_i hf
    exact mr_iw X hH rfl dX5_goBack_35
def f5_goBack_0 (v4 : Nat → Int32) (v5 : Nat → Int32) (x1 : Int32) (v0 : Nat → Int32) (v1 : Nat → Int32) (v3 : Nat → Int32) : Option (Int32 × (Nat → Int32) × (Nat → Int32) × (Nat → Int32)) := Option.bind (f5_in_0 x1 0 1) (fun t1 => if t1 = 0 then (f5_goBack_28 v4 v5 x1 1 v0 v1 v3) else (gd x1 2 (if (v5 (Int32.toNatClampNeg x1)) = 0 then (f5_goBack_28 v4 v5 x1 2 v0 v1 v3) else (f5_goBack_28 v4 v5 x1 0 v0 v1 v3))))
set_option maxRecDepth 100000 in
set_option maxHeartbeats 4000000 in
theorem w5_goBack_0 {p : Program} {l : Launch} {e : Env} {s : State} {m : MethodId} {args : Array Value} {below : List Frame} {meth : Method} {c : Code} {D : va_G} {cI cZ : ClassId} {ad : Nat → Nat} {v0 v1 v2 v3 v4 v5 v6 v7 v8 : Nat → Int32} (X : mX D cI cZ p s m args meth c cX5_goBack 3 (some .int)) (hI : mInj ad) {x1 : Int32} {t : Int32 × (Nat → Int32) × (Nat → Int32) × (Nat → Int32)}  {H : Heap} {locs : List Loc} (hH : mH D cI cZ ad v0 v1 v2 v3 v4 v5 v6 v7 v8 s H locs) {ls : Array Slot} (hl : lv_has ls 3 [(0, .ref (ad 0)), (1, .int x1)]) (hf : f5_goBack_0 v4 v5 x1 v0 v1 v3 = some t) : W p l e rm5_goBack s m args below meth c H locs 0 0 (MQ below (va_Qi (fun (r9 : Int32) (_ : Unit) => r9 = t.1) (fun _ t9 => mB D cI cZ ad t.2.1 t.2.2.1 v2 t.2.2.2 v4 v5 v6 v7 v8 t9) (mA ad s.heap.size)) args s 0 0 (mA ad s.heap.size)) (F0 m 0 ls []) := by
  obtain ⟨⟨hx, hb, hml, hown, hts⟩, hr, hlk, hK⟩ := id X
  replace hf : (Option.bind (f5_in_0 x1 0 1) (fun t1 => if t1 = 0 then (f5_goBack_28 v4 v5 x1 1 v0 v1 v3) else (gd x1 2 (if (v5 (Int32.toNatClampNeg x1)) = 0 then (f5_goBack_28 v4 v5 x1 2 v0 v1 v3) else (f5_goBack_28 v4 v5 x1 0 v0 v1 v3))))) = some t := hf
  refine lv_aload_n hx hb dX5_goBack_0 rfl (lv_at hl 0 rfl) ?_
  refine lv_iload_n hx hb dX5_goBack_1 rfl (lv_at hl 1 rfl) ?_
  refine lv_iconst (v := 0) hx hb dX5_goBack_2 (by decide) ?_
  refine lv_iconst (v := 1) hx hb dX5_goBack_3 (by decide) ?_
  obtain ⟨t1, ht1, hf⟩ := bd_o hf
  refine k5_in X.1 hl.1 qX5_39 ⟨Nat.le_of_ble_eq_true rfl, Nat.le_of_ble_eq_true rfl⟩ ht1 (Nat.le_of_ble_eq_true rfl) dX5_goBack_4 ⟨Nat.zero_le _, Nat.zero_le _⟩ ?_
  refine lv_if_ne (tgt := 14) hx hb dX5_goBack_7 (by decide) (fun c2 => ?_) (fun c2 => ?_)
  · have hf := it_f c2 hf
    refine lv_aload_n hx hb dX5_goBack_14 rfl (lv_at hl 0 rfl) ?_
    refine mr_get X hH.1 (k := 5) (v := .ref (ad 5)) (by decide) gfX5_22 rfl dX5_goBack_15 ?_
    refine lv_iload_n hx hb dX5_goBack_18 rfl (lv_at hl 1 rfl) ?_
    obtain ⟨hi3, hf⟩ := gd_o hf
    refine mr_ld5 X hH.1 hi3 dX5_goBack_19 ?_
    refine lv_if_eq (tgt := 27) hx hb dX5_goBack_20 (by decide) (fun c4 => ?_) (fun c4 => ?_)
    · have hf := it_t c4 hf
      refine lv_iconst (v := 2) hx hb dX5_goBack_27 (by decide) ?_
      exact w5_goBack_28 X hI hH (lv_sub hl [0, 1] rfl) hf
    · have hf := it_f c4 hf
      refine lv_iconst (v := 0) hx hb dX5_goBack_23 (by decide) ?_
      refine lv_goto (tgt := 28) hx hb dX5_goBack_24 (by decide) ?_
      exact w5_goBack_28 X hI hH (lv_sub hl [0, 1] rfl) hf
  · have hf := it_t c2 hf
    refine lv_iconst (v := 1) hx hb dX5_goBack_10 (by decide) ?_
    refine lv_goto (tgt := 28) hx hb dX5_goBack_11 (by decide) ?_
    exact w5_goBack_28 X hI hH (lv_sub hl [0, 1] rfl) hf
set_option maxRecDepth 100000 in
set_option maxHeartbeats 4000000 in
theorem c5_goBack (l : Launch) {D : va_G} {cI cZ : ClassId} {ad : Nat → Nat} {v0 v1 v2 v3 v4 v5 v6 v7 v8 : Nat → Int32} (hI : mInj ad) (sz : Nat) (x1 : Int32) {t : Int32 × (Nat → Int32) × (Nat → Int32) × (Nat → Int32)} (hf : f5_goBack_0 v4 v5 x1 v0 v1 v3 = some t) : Met l yX5_goBack uX5_goBack rm5_goBack (va_Pc [.ref (ad 0), .int x1] (fun U => U.heap.size = sz ∧ mB D cI cZ ad v0 v1 v2 v3 v4 v5 v6 v7 v8 U)) (va_Qi (fun (r9 : Int32) (_ : Unit) => r9 = t.1) (fun _ t9 => mB D cI cZ ad t.2.1 t.2.2.1 v2 t.2.2.2 v4 v5 v6 v7 v8 t9) (mA ad sz)) 0 0 (mA ad sz) := by
  refine Met.ofW (cc := cX5_goBack) (maxL := 3) (ret := (some .int)) (by decide) rfl ?_
  intro p e s m args below meth c s₁ B hml hv
  obtain ⟨rfl, hsz, hP, hK⟩ := hv
  subst hsz
  have X : mX D cI cZ p s m ([.ref (ad 0), .int x1] : List Value).toArray meth c cX5_goBack 3 (some .int) := ⟨⟨B.exec, B.bytes, hml, findClass_of_methodNamed B.named, fun w h => atoms_spec (ws := uX5_goBack) B.pre w (List.mem_cons_of_mem _ h)⟩, B.returns, B.notSynchronized, hK⟩
  have hl := lv_entry ([.ref (ad 0), .int x1]) (n := 3) (Nat.le_of_ble_eq_true rfl)
  rw [lg_entry_eq]
  generalize (lg_sl ([.ref (ad 0), .int x1]) ++ List.replicate (3 - (lg_sl ([.ref (ad 0), .int x1])).length) Slot.unset).toArray = ls at hl ⊢
  have hl : lv_has ls 3 [(0, .ref (ad 0)), (1, .int x1)] := hl
  exact w5_goBack_0 X hI ⟨hP, va_S.rf⟩ (lv_sub hl [0, 1] rfl) hf
set_option maxRecDepth 100000 in
set_option maxHeartbeats 4000000 in
theorem k5_goBack {p : Program} {l : Launch} {e : Env} {R : Room} {s : State} {m : MethodId} {args : Array Value} {below : List Frame} {meth : Method} {c : Code} {cc : ByteArray} {nL : Nat} {ret : Option FieldType} {D : va_G} {cI cZ : ClassId} {ad : Nat → Nat} {v0 v1 v2 v3 v4 v5 v6 v7 v8 : Nat → Int32} {H : Heap} {locs : List Loc} {cells slots : Nat} {Q : State → Prop} {pc : Nat} {ls : Array Slot} {rest : List Value} (X : mX D cI cZ p s m args meth c cc nL ret) (hI : mInj ad) (hH : mH D cI cZ ad v0 v1 v2 v3 v4 v5 v6 v7 v8 s H locs) (hls : ls.size = nL) {index : Nat} (hG : GoodIn gw (wsV RX5 index RX5 yX5_goBack uX5_goBack)) (hR : rm5_goBack.frames + 1 ≤ R.frames ∧ 8 + (3 + 11) + rm5_goBack.locals ≤ R.locals) {x1 : Int32} {t : Int32 × (Nat → Int32) × (Nat → Int32) × (Nat → Int32)} (hf : f5_goBack_0 v4 v5 x1 v0 v1 v3 = some t) (hrest : (rest.map fun v => v.category).sum ≤ 8) (hdg : decode cc pc = .ok (.invokevirtual index, 3)) (hc : cells ≤ R.cells ∧ slots ≤ R.slots) (kk : ∀ (H1 : Heap) (locs1 : List Loc), mH D cI cZ ad t.2.1 t.2.2.1 v2 t.2.2.2 v4 v5 v6 v7 v8 s H1 locs1 → W p l e R s m args below meth c H1 locs1 cells slots Q (F0 m (pc + 3) ls (.int t.1 :: rest))) : W p l e R s m args below meth c H locs cells slots Q (F0 m pc ls (.int x1 :: .ref (ad 0) :: rest)) := by
  have hA : ∀ q, mA ad H.size q → mA ad s.heap.size q := fun q h => h.elim Or.inl (fun h => Or.inr (Nat.le_trans hH.2.1 h))
  refine va_calli (va_runV (As := [.int x1]) (rest := rest) X.1 (c5_goBack l hI H.size x1 hf) (cwV 1 X.1.2.2.2.2 hG rfl rfl rfl (by decide +kernel) hR) ⟨mBs_bl, va_recv X.2.2.2 hH.1 (ci := 5) (q0 := 0) rfl rfl, fun U hU hW => ⟨rfl, by rw [hU], by rw [hU]; exact hH.1, va_K.moved hW.alike X.2.2.2⟩⟩ rfl rfl hls rfl (lv_room hrest) hdg hc) hH.2 (fun q _ h => hA q h) hA (fun r9 u t9 H1 locs1 ht hvm hw hB hz1 hk1 hS => ?_)
  subst hw
  exact kk H1 locs1 ⟨by rw [← ht]; exact hB.1, hS⟩
/-! OreRailwayModel.carsAt(II)I -/
def rm5_carsAt : Room := { frames := 2, cells := 0, slots := 0, locals := 43 }
def f5_carsAt_71 (v1 : Nat → Int32) (K5 : Int32 → Int32 → Int32 → Int32 → Option (Int32)) (x1 : Int32) (x2 : Int32) (x4 : Int32) (y0 : Int32) (y1 : Int32) : Option (Int32) := K5 x1 x2 (y1 ||| y0) (x4 + 1)
set_option maxRecDepth 100000 in
set_option maxHeartbeats 4000000 in
theorem w5_carsAt_71 {p : Program} {l : Launch} {e : Env} {s : State} {m : MethodId} {args : Array Value} {below : List Frame} {meth : Method} {c : Code} {D : va_G} {cI cZ : ClassId} {ad : Nat → Nat} {v0 v1 v2 v3 v4 v5 v6 v7 v8 : Nat → Int32} (X : mX D cI cZ p s m args meth c cX5_carsAt 6 (some .int)) (hP : va_P D vwCl (mwW cI cZ ad v0 v1 v2 v3 v4 v5 v6 v7 v8) s.heap) {x1 : Int32} {x2 : Int32} {x4 : Int32} {y0 : Int32} {y1 : Int32} {t : Int32} {K5 : Int32 → Int32 → Int32 → Int32 → Option (Int32)} (hK5 : ∀ (x1 : Int32) (x2 : Int32) (x3 : Int32) (x4 : Int32) (ls : Array Slot), lv_has ls 6 [(0, .ref (ad 0)), (1, .int x1), (2, .int x2), (3, .int x3), (4, .int x4)] → K5 x1 x2 x3 x4 = some t → W p l e rm5_carsAt s m args below meth c s.heap [] 0 0 (MQ below (QcRead t) args s 0 0 (fun _ => False)) (F0 m 5 ls []))  {ls : Array Slot} (hl : lv_has ls 6 [(0, .ref (ad 0)), (1, .int x1), (2, .int x2), (4, .int x4)]) (hf : f5_carsAt_71 v1 K5 x1 x2 x4 y0 y1 = some t) : W p l e rm5_carsAt s m args below meth c s.heap [] 0 0 (MQ below (QcRead t) args s 0 0 (fun _ => False)) (F0 m 71 ls [.int y0, .int y1]) := by
  obtain ⟨⟨hx, hb, hml, hown, hts⟩, hr, hlk, hK⟩ := id X
  replace hf : (K5 x1 x2 (y1 ||| y0) (x4 + 1)) = some t := hf
  refine lv_ior hx hb dX5_carsAt_71 ?_
  refine lv_istore_n (lv' := [(3, .int (y1 ||| y0)), (0, .ref (ad 0)), (1, .int x1), (2, .int x2), (4, .int x4)]) hx hb dX5_carsAt_72 rfl hl (by decide) rfl (fun ls hl => ?_)
  refine lv_iinc (v := x4 + 1) (lv' := [(4, .int (x4 + 1)), (3, .int (y1 ||| y0)), (0, .ref (ad 0)), (1, .int x1), (2, .int x2)]) hx hb dX5_carsAt_73 hl (k := 4) rfl rfl (by decide) rfl (fun ls hl => ?_)
  refine lv_goto (tgt := 5) hx hb dX5_carsAt_76 (by decide) ?_
  exact hK5 _ _ _ _ _ (lv_sub hl [2, 3, 4, 1, 0] rfl) hf
def f5_carsAt_55 (v1 : Nat → Int32) (K5 : Int32 → Int32 → Int32 → Int32 → Option (Int32)) (x1 : Int32) (x2 : Int32) (x3 : Int32) (x4 : Int32) (y0 : Int32) : Option (Int32) := if y0 = 0 then (f5_carsAt_71 v1 K5 x1 x2 x4 0 x3) else (f5_carsAt_71 v1 K5 x1 x2 x4 (1 <<< (x4 &&& 31)) x3)
set_option maxRecDepth 100000 in
set_option maxHeartbeats 4000000 in
theorem w5_carsAt_55 {p : Program} {l : Launch} {e : Env} {s : State} {m : MethodId} {args : Array Value} {below : List Frame} {meth : Method} {c : Code} {D : va_G} {cI cZ : ClassId} {ad : Nat → Nat} {v0 v1 v2 v3 v4 v5 v6 v7 v8 : Nat → Int32} (X : mX D cI cZ p s m args meth c cX5_carsAt 6 (some .int)) (hP : va_P D vwCl (mwW cI cZ ad v0 v1 v2 v3 v4 v5 v6 v7 v8) s.heap) {x1 : Int32} {x2 : Int32} {x3 : Int32} {x4 : Int32} {y0 : Int32} {t : Int32} {K5 : Int32 → Int32 → Int32 → Int32 → Option (Int32)} (hK5 : ∀ (x1 : Int32) (x2 : Int32) (x3 : Int32) (x4 : Int32) (ls : Array Slot), lv_has ls 6 [(0, .ref (ad 0)), (1, .int x1), (2, .int x2), (3, .int x3), (4, .int x4)] → K5 x1 x2 x3 x4 = some t → W p l e rm5_carsAt s m args below meth c s.heap [] 0 0 (MQ below (QcRead t) args s 0 0 (fun _ => False)) (F0 m 5 ls []))  {ls : Array Slot} (hl : lv_has ls 6 [(0, .ref (ad 0)), (1, .int x1), (2, .int x2), (3, .int x3), (4, .int x4)]) (hf : f5_carsAt_55 v1 K5 x1 x2 x3 x4 y0 = some t) : W p l e rm5_carsAt s m args below meth c s.heap [] 0 0 (MQ below (QcRead t) args s 0 0 (fun _ => False)) (F0 m 55 ls [.int y0]) := by
  obtain ⟨⟨hx, hb, hml, hown, hts⟩, hr, hlk, hK⟩ := id X
  replace hf : (if y0 = 0 then (f5_carsAt_71 v1 K5 x1 x2 x4 0 x3) else (f5_carsAt_71 v1 K5 x1 x2 x4 (1 <<< (x4 &&& 31)) x3)) = some t := hf
  refine lv_istore (lv' := [(5, .int y0), (0, .ref (ad 0)), (1, .int x1), (2, .int x2), (3, .int x3), (4, .int x4)]) hx hb dX5_carsAt_55 hl (by decide) rfl (fun ls hl => ?_)
  refine lv_iload_n hx hb dX5_carsAt_57 rfl (lv_at hl 4 rfl) ?_
  refine lv_iload hx hb dX5_carsAt_58 (lv_at hl 0 rfl) ?_
  refine lv_if_eq (tgt := 70) hx hb dX5_carsAt_60 (by decide) (fun c1 => ?_) (fun c1 => ?_)
  · have hf := it_t c1 hf
    refine lv_iconst (v := 0) hx hb dX5_carsAt_70 (by decide) ?_
    exact w5_carsAt_71 X hP (K5 := K5) hK5  (lv_sub hl [1, 2, 3, 5] rfl) hf
  · have hf := it_f c1 hf
    refine lv_iconst (v := 1) hx hb dX5_carsAt_63 (by decide) ?_
    refine lv_iload hx hb dX5_carsAt_64 (lv_at hl 5 rfl) ?_
    refine lv_ishl hx hb dX5_carsAt_66 ?_
    refine lv_goto (tgt := 71) hx hb dX5_carsAt_67 (by decide) ?_
    exact w5_carsAt_71 X hP (K5 := K5) hK5  (lv_sub hl [1, 2, 3, 5] rfl) hf
def f5_carsAt_54 (v1 : Nat → Int32) (K5 : Int32 → Int32 → Int32 → Int32 → Option (Int32)) (x1 : Int32) (x2 : Int32) (x3 : Int32) (x4 : Int32) : Option (Int32) := f5_carsAt_55 v1 K5 x1 x2 x3 x4 0
set_option maxRecDepth 100000 in
set_option maxHeartbeats 4000000 in
theorem w5_carsAt_54 {p : Program} {l : Launch} {e : Env} {s : State} {m : MethodId} {args : Array Value} {below : List Frame} {meth : Method} {c : Code} {D : va_G} {cI cZ : ClassId} {ad : Nat → Nat} {v0 v1 v2 v3 v4 v5 v6 v7 v8 : Nat → Int32} (X : mX D cI cZ p s m args meth c cX5_carsAt 6 (some .int)) (hP : va_P D vwCl (mwW cI cZ ad v0 v1 v2 v3 v4 v5 v6 v7 v8) s.heap) {x1 : Int32} {x2 : Int32} {x3 : Int32} {x4 : Int32} {t : Int32} {K5 : Int32 → Int32 → Int32 → Int32 → Option (Int32)} (hK5 : ∀ (x1 : Int32) (x2 : Int32) (x3 : Int32) (x4 : Int32) (ls : Array Slot), lv_has ls 6 [(0, .ref (ad 0)), (1, .int x1), (2, .int x2), (3, .int x3), (4, .int x4)] → K5 x1 x2 x3 x4 = some t → W p l e rm5_carsAt s m args below meth c s.heap [] 0 0 (MQ below (QcRead t) args s 0 0 (fun _ => False)) (F0 m 5 ls []))  {ls : Array Slot} (hl : lv_has ls 6 [(0, .ref (ad 0)), (1, .int x1), (2, .int x2), (3, .int x3), (4, .int x4)]) (hf : f5_carsAt_54 v1 K5 x1 x2 x3 x4 = some t) : W p l e rm5_carsAt s m args below meth c s.heap [] 0 0 (MQ below (QcRead t) args s 0 0 (fun _ => False)) (F0 m 54 ls []) := by
  obtain ⟨⟨hx, hb, hml, hown, hts⟩, hr, hlk, hK⟩ := id X
  replace hf : (f5_carsAt_55 v1 K5 x1 x2 x3 x4 0) = some t := hf
  refine lv_iconst (v := 0) hx hb dX5_carsAt_54 (by decide) ?_
  exact w5_carsAt_55 X hP (K5 := K5) hK5  (lv_sub hl [0, 1, 2, 3, 4] rfl) hf
def f5_carsAt_50 (v1 : Nat → Int32) (K5 : Int32 → Int32 → Int32 → Int32 → Option (Int32)) (x1 : Int32) (x2 : Int32) (x3 : Int32) (x4 : Int32) : Option (Int32) := f5_carsAt_55 v1 K5 x1 x2 x3 x4 1
set_option maxRecDepth 100000 in
set_option maxHeartbeats 4000000 in
theorem w5_carsAt_50 {p : Program} {l : Launch} {e : Env} {s : State} {m : MethodId} {args : Array Value} {below : List Frame} {meth : Method} {c : Code} {D : va_G} {cI cZ : ClassId} {ad : Nat → Nat} {v0 v1 v2 v3 v4 v5 v6 v7 v8 : Nat → Int32} (X : mX D cI cZ p s m args meth c cX5_carsAt 6 (some .int)) (hP : va_P D vwCl (mwW cI cZ ad v0 v1 v2 v3 v4 v5 v6 v7 v8) s.heap) {x1 : Int32} {x2 : Int32} {x3 : Int32} {x4 : Int32} {t : Int32} {K5 : Int32 → Int32 → Int32 → Int32 → Option (Int32)} (hK5 : ∀ (x1 : Int32) (x2 : Int32) (x3 : Int32) (x4 : Int32) (ls : Array Slot), lv_has ls 6 [(0, .ref (ad 0)), (1, .int x1), (2, .int x2), (3, .int x3), (4, .int x4)] → K5 x1 x2 x3 x4 = some t → W p l e rm5_carsAt s m args below meth c s.heap [] 0 0 (MQ below (QcRead t) args s 0 0 (fun _ => False)) (F0 m 5 ls []))  {ls : Array Slot} (hl : lv_has ls 6 [(0, .ref (ad 0)), (1, .int x1), (2, .int x2), (3, .int x3), (4, .int x4)]) (hf : f5_carsAt_50 v1 K5 x1 x2 x3 x4 = some t) : W p l e rm5_carsAt s m args below meth c s.heap [] 0 0 (MQ below (QcRead t) args s 0 0 (fun _ => False)) (F0 m 50 ls []) := by
  obtain ⟨⟨hx, hb, hml, hown, hts⟩, hr, hlk, hK⟩ := id X
  replace hf : (f5_carsAt_55 v1 K5 x1 x2 x3 x4 1) = some t := hf
  refine lv_iconst (v := 1) hx hb dX5_carsAt_50 (by decide) ?_
  refine lv_goto (tgt := 55) hx hb dX5_carsAt_51 (by decide) ?_
  exact w5_carsAt_55 X hP (K5 := K5) hK5  (lv_sub hl [0, 1, 2, 3, 4] rfl) hf
def f5_carsAt_5 (v1 : Nat → Int32) : Nat → Int32 → Int32 → Int32 → Int32 → Option (Int32)
  | 0, _, _, _, _ => none
  | n + 1, x1, x2, x3, x4 => gd 162 171 (if (v1 (Int32.toNatClampNeg 162)) ≤ x4 then (some x3) else (Option.bind (f5_isIn_0 v1 x4 x1) (fun t3 => if t3 = 0 then (f5_carsAt_54 v1 (f5_carsAt_5 v1 n) x1 x2 x3 x4) else (if x2 < 0 then (f5_carsAt_50 v1 (f5_carsAt_5 v1 n) x1 x2 x3 x4) else (gd (e5_of x4 4) 171 (if ((v1 (Int32.toNatClampNeg (e5_of x4 4))) / 10) = x2 then (f5_carsAt_50 v1 (f5_carsAt_5 v1 n) x1 x2 x3 x4) else (f5_carsAt_54 v1 (f5_carsAt_5 v1 n) x1 x2 x3 x4)))))))
set_option maxRecDepth 100000 in
set_option maxHeartbeats 4000000 in
theorem w5_carsAt_5 {p : Program} {l : Launch} {e : Env} {s : State} {m : MethodId} {args : Array Value} {below : List Frame} {meth : Method} {c : Code} {D : va_G} {cI cZ : ClassId} {ad : Nat → Nat} {v0 v1 v2 v3 v4 v5 v6 v7 v8 : Nat → Int32} (X : mX D cI cZ p s m args meth c cX5_carsAt 6 (some .int)) (hP : va_P D vwCl (mwW cI cZ ad v0 v1 v2 v3 v4 v5 v6 v7 v8) s.heap) {t : Int32} :
    ∀ (n : Nat) (x1 : Int32) (x2 : Int32) (x3 : Int32) (x4 : Int32) (ls : Array Slot), lv_has ls 6 [(0, .ref (ad 0)), (1, .int x1), (2, .int x2), (3, .int x3), (4, .int x4)] → f5_carsAt_5 v1 n x1 x2 x3 x4 = some t → W p l e rm5_carsAt s m args below meth c s.heap [] 0 0 (MQ below (QcRead t) args s 0 0 (fun _ => False)) (F0 m 5 ls []) := by
  obtain ⟨⟨hx, hb, hml, hown, hts⟩, hr, hlk, hK⟩ := id X
  intro n
  induction n with
  | zero =>
    intro x1 x2 x3 x4 ls hl hf
    cases hf
  | succ n ih =>
    intro x1 x2 x3 x4 ls hl hf
    replace hf : (gd 162 171 (if (v1 (Int32.toNatClampNeg 162)) ≤ x4 then (some x3) else (Option.bind (f5_isIn_0 v1 x4 x1) (fun t3 => if t3 = 0 then (f5_carsAt_54 v1 (f5_carsAt_5 v1 n) x1 x2 x3 x4) else (if x2 < 0 then (f5_carsAt_50 v1 (f5_carsAt_5 v1 n) x1 x2 x3 x4) else (gd (e5_of x4 4) 171 (if ((v1 (Int32.toNatClampNeg (e5_of x4 4))) / 10) = x2 then (f5_carsAt_50 v1 (f5_carsAt_5 v1 n) x1 x2 x3 x4) else (f5_carsAt_54 v1 (f5_carsAt_5 v1 n) x1 x2 x3 x4)))))))) = some t := hf
    refine lv_iload hx hb dX5_carsAt_5 (lv_at hl 4 rfl) ?_
    refine lv_aload_n hx hb dX5_carsAt_7 rfl (lv_at hl 0 rfl) ?_
    refine mr_get X hP (k := 0) (v := .ref (ad 1)) (by decide) gfX5_7 rfl dX5_carsAt_8 ?_
    refine lv_sipush (v := 162) hx hb dX5_carsAt_11 (by decide) ?_
    obtain ⟨hi1, hf⟩ := gd_o hf
    refine mr_ld1 X hP hi1 dX5_carsAt_14 ?_
    refine lv_icmp_ge (tgt := 79) hx hb dX5_carsAt_15 (by decide) (fun c2 => ?_) (fun c2 => ?_)
    · have hf := it_t c2 hf
      refine lv_iload_n hx hb dX5_carsAt_79 rfl (lv_at hl 3 rfl) ?_
      obtain rfl := so_i hf
      exact rd_i hx hb hr hlk dX5_carsAt_80
    · have hf := it_f c2 hf
      refine lv_aload_n hx hb dX5_carsAt_18 rfl (lv_at hl 0 rfl) ?_
      refine lv_iload hx hb dX5_carsAt_19 (lv_at hl 4 rfl) ?_
      refine lv_iload_n hx hb dX5_carsAt_21 rfl (lv_at hl 1 rfl) ?_
      obtain ⟨t3, ht3, hf⟩ := bd_o hf
      refine k5_isIn X hP hl.1 qX5_67 ⟨Nat.le_of_ble_eq_true rfl, Nat.le_of_ble_eq_true rfl⟩ ht3 (Nat.le_of_ble_eq_true rfl) dX5_carsAt_22 ⟨Nat.zero_le _, Nat.zero_le _⟩ ?_
      refine lv_if_eq (tgt := 54) hx hb dX5_carsAt_25 (by decide) (fun c4 => ?_) (fun c4 => ?_)
      · have hf := it_t c4 hf
        exact w5_carsAt_54 X hP (K5 := (f5_carsAt_5 v1 n)) ih  (lv_sub hl [0, 1, 2, 3, 4] rfl) hf
      · have hf := it_f c4 hf
        refine lv_iload_n hx hb dX5_carsAt_28 rfl (lv_at hl 2 rfl) ?_
        refine lv_if_lt (tgt := 50) hx hb dX5_carsAt_29 (by decide) (fun c5 => ?_) (fun c5 => ?_)
        · have hf := it_t c5 hf
          exact w5_carsAt_50 X hP (K5 := (f5_carsAt_5 v1 n)) ih  (lv_sub hl [0, 1, 2, 3, 4] rfl) hf
        · have hf := it_f c5 hf
          refine lv_aload_n hx hb dX5_carsAt_32 rfl (lv_at hl 0 rfl) ?_
          refine mr_get X hP (k := 0) (v := .ref (ad 1)) (by decide) gfX5_7 rfl dX5_carsAt_33 ?_
          refine lv_iload hx hb dX5_carsAt_36 (lv_at hl 4 rfl) ?_
          refine lv_iconst (v := 4) hx hb dX5_carsAt_38 (by decide) ?_
          refine k5_of X.1 hl.1 qX5_43 ⟨Nat.le_of_ble_eq_true rfl, Nat.le_of_ble_eq_true rfl⟩ (Nat.le_of_ble_eq_true rfl) dX5_carsAt_39 ⟨Nat.zero_le _, Nat.zero_le _⟩ ?_
          obtain ⟨hi6, hf⟩ := gd_o hf
          refine mr_ld1 X hP hi6 dX5_carsAt_42 ?_
          refine lv_bipush (v := 10) hx hb dX5_carsAt_43 (by decide) ?_
          refine lv_idiv hx hb dX5_carsAt_45 (by decide) ?_
          refine lv_iload_n hx hb dX5_carsAt_46 rfl (lv_at hl 2 rfl) ?_
          refine lv_icmp_ne (tgt := 54) hx hb dX5_carsAt_47 (by decide) (fun c7 => ?_) (fun c7 => ?_)
          · have hf := it_f c7 hf
            exact w5_carsAt_54 X hP (K5 := (f5_carsAt_5 v1 n)) ih  (lv_sub hl [0, 1, 2, 3, 4] rfl) hf
          · have hf := it_t c7 hf
            exact w5_carsAt_50 X hP (K5 := (f5_carsAt_5 v1 n)) ih  (lv_sub hl [0, 1, 2, 3, 4] rfl) hf
def f5_carsAt_0 (v1 : Nat → Int32) (x1 : Int32) (x2 : Int32) : Option (Int32) := f5_carsAt_5 v1 fu x1 x2 0 0
set_option maxRecDepth 100000 in
set_option maxHeartbeats 4000000 in
theorem w5_carsAt_0 {p : Program} {l : Launch} {e : Env} {s : State} {m : MethodId} {args : Array Value} {below : List Frame} {meth : Method} {c : Code} {D : va_G} {cI cZ : ClassId} {ad : Nat → Nat} {v0 v1 v2 v3 v4 v5 v6 v7 v8 : Nat → Int32} (X : mX D cI cZ p s m args meth c cX5_carsAt 6 (some .int)) (hP : va_P D vwCl (mwW cI cZ ad v0 v1 v2 v3 v4 v5 v6 v7 v8) s.heap) {x1 : Int32} {x2 : Int32} {t : Int32}  {ls : Array Slot} (hl : lv_has ls 6 [(0, .ref (ad 0)), (1, .int x1), (2, .int x2)]) (hf : f5_carsAt_0 v1 x1 x2 = some t) : W p l e rm5_carsAt s m args below meth c s.heap [] 0 0 (MQ below (QcRead t) args s 0 0 (fun _ => False)) (F0 m 0 ls []) := by
  obtain ⟨⟨hx, hb, hml, hown, hts⟩, hr, hlk, hK⟩ := id X
  replace hf : (f5_carsAt_5 v1 fu x1 x2 0 0) = some t := hf
  refine lv_iconst (v := 0) hx hb dX5_carsAt_0 (by decide) ?_
  refine lv_istore_n (lv' := [(3, .int 0), (0, .ref (ad 0)), (1, .int x1), (2, .int x2)]) hx hb dX5_carsAt_1 rfl hl (by decide) rfl (fun ls hl => ?_)
  refine lv_iconst (v := 0) hx hb dX5_carsAt_2 (by decide) ?_
  refine lv_istore (lv' := [(4, .int 0), (3, .int 0), (0, .ref (ad 0)), (1, .int x1), (2, .int x2)]) hx hb dX5_carsAt_3 hl (by decide) rfl (fun ls hl => ?_)
  exact w5_carsAt_5 X hP _ _ _ _ _ _ (lv_sub hl [2, 3, 4, 1, 0] rfl) hf
set_option maxRecDepth 100000 in
set_option maxHeartbeats 4000000 in
theorem c5_carsAt (l : Launch) {D : va_G} {cI cZ : ClassId} {ad : Nat → Nat} {v0 v1 v2 v3 v4 v5 v6 v7 v8 : Nat → Int32} (x1 : Int32) (x2 : Int32) {t : Int32} (hf : f5_carsAt_0 v1 x1 x2 = some t) : Met l yX5_carsAt uX5_carsAt rm5_carsAt (va_Pc [.ref (ad 0), .int x1, .int x2] (mB D cI cZ ad v0 v1 v2 v3 v4 v5 v6 v7 v8)) (QcRead t) 0 0 (fun _ => False) := by
  refine Met.ofW (cc := cX5_carsAt) (maxL := 6) (ret := (some .int)) (by decide) rfl ?_
  intro p e s m args below meth c s₁ B hml hv
  obtain ⟨rfl, hP, hK⟩ := hv
  have X : mX D cI cZ p s m ([.ref (ad 0), .int x1, .int x2] : List Value).toArray meth c cX5_carsAt 6 (some .int) := ⟨⟨B.exec, B.bytes, hml, findClass_of_methodNamed B.named, fun w h => atoms_spec (ws := uX5_carsAt) B.pre w (List.mem_cons_of_mem _ h)⟩, B.returns, B.notSynchronized, hK⟩
  have hl := lv_entry ([.ref (ad 0), .int x1, .int x2]) (n := 6) (Nat.le_of_ble_eq_true rfl)
  rw [lg_entry_eq]
  generalize (lg_sl ([.ref (ad 0), .int x1, .int x2]) ++ List.replicate (6 - (lg_sl ([.ref (ad 0), .int x1, .int x2])).length) Slot.unset).toArray = ls at hl ⊢
  have hl : lv_has ls 6 [(0, .ref (ad 0)), (1, .int x1), (2, .int x2)] := hl
  exact w5_carsAt_0 X hP (lv_sub hl [0, 1, 2] rfl) hf
set_option maxRecDepth 100000 in
set_option maxHeartbeats 4000000 in
theorem k5_carsAt {p : Program} {l : Launch} {e : Env} {R : Room} {s : State} {m : MethodId} {args : Array Value} {below : List Frame} {meth : Method} {c : Code} {cc : ByteArray} {nL : Nat} {ret : Option FieldType} {D : va_G} {cI cZ : ClassId} {ad : Nat → Nat} {v0 v1 v2 v3 v4 v5 v6 v7 v8 : Nat → Int32} {H : Heap} {locs : List Loc} {cells slots : Nat} {Q : State → Prop} {pc : Nat} {ls : Array Slot} {rest : List Value} (X : mX D cI cZ p s m args meth c cc nL ret) (hP : va_P D vwCl (mwW cI cZ ad v0 v1 v2 v3 v4 v5 v6 v7 v8) H) (hls : ls.size = nL) {index : Nat} (hG : GoodIn gw (wsV RX5 index RX5 yX5_carsAt uX5_carsAt)) (hR : rm5_carsAt.frames + 1 ≤ R.frames ∧ 8 + (6 + 11) + rm5_carsAt.locals ≤ R.locals) {x1 : Int32} {x2 : Int32} {t : Int32} (hf : f5_carsAt_0 v1 x1 x2 = some t) (hrest : (rest.map fun v => v.category).sum ≤ 8) (hdg : decode cc pc = .ok (.invokevirtual index, 3)) (hc : cells ≤ R.cells ∧ slots ≤ R.slots) (kk : W p l e R s m args below meth c H locs cells slots Q (F0 m (pc + 3) ls (.int t :: rest))) : W p l e R s m args below meth c H locs cells slots Q (F0 m pc ls (.int x2 :: .int x1 :: .ref (ad 0) :: rest)) :=
  W.callR (W.runV (As := [.int x1, .int x2]) X.1 (c5_carsAt l x1 x2 hf) (cwV 2 X.1.2.2.2.2 hG rfl rfl rfl (by decide +kernel) hR) ⟨mB_bl, va_recv X.2.2.2 hP (ci := 5) (q0 := 0) rfl rfl, fun U hU hW => ⟨rfl, by rw [hU]; exact hP, va_K.moved hW.alike X.2.2.2⟩⟩ rfl rfl hls rfl (lv_room hrest) hdg hc) kk
/-! OreRailwayModel.section(II)I -/
def rm5_section : Room := { frames := 3, cells := 0, slots := 0, locals := 68 }
def f5_section_29 (v1 : Nat → Int32) (x1 : Int32) (x2 : Int32) (y0 : Int32) (v0 : Nat → Int32) : Option (Int32 × (Nat → Int32)) := Option.bind (f5_refused_0 y0 v0) (fun t1 => if t1.1 = 0 then (if x2 = 0 then (gd (0 + x1) 171 (some (v1 (Int32.toNatClampNeg (0 + x1)), t1.2))) else (if x2 = 1 then (gd (30 + x1) 171 (some (v1 (Int32.toNatClampNeg (30 + x1)), t1.2))) else (if x2 = 2 then (Option.bind (f5_carsAt_0 v1 1 x1) (fun t8 => some (t8, t1.2))) else (if x2 = 3 then (Option.bind (f5_carsAt_0 v1 3 x1) (fun t10 => some (t10, t1.2))) else (gd (60 + x1) 171 (some (v1 (Int32.toNatClampNeg (60 + x1)), t1.2))))))) else (some (0, t1.2)))
set_option maxRecDepth 100000 in
set_option maxHeartbeats 4000000 in
theorem w5_section_29 {p : Program} {l : Launch} {e : Env} {s : State} {m : MethodId} {args : Array Value} {below : List Frame} {meth : Method} {c : Code} {D : va_G} {cI cZ : ClassId} {ad : Nat → Nat} {v0 v1 v2 v3 v4 v5 v6 v7 v8 : Nat → Int32} (X : mX D cI cZ p s m args meth c cX5_section 3 (some .int)) (hI : mInj ad) {x1 : Int32} {x2 : Int32} {y0 : Int32} {t : Int32 × (Nat → Int32)}  {H : Heap} {locs : List Loc} (hH : mH D cI cZ ad v0 v1 v2 v3 v4 v5 v6 v7 v8 s H locs) {ls : Array Slot} (hl : lv_has ls 3 [(0, .ref (ad 0)), (1, .int x1), (2, .int x2)]) (hf : f5_section_29 v1 x1 x2 y0 v0 = some t) : W p l e rm5_section s m args below meth c H locs 0 0 (MQ below (va_Qi (fun (r9 : Int32) (_ : Unit) => r9 = t.1) (fun _ t9 => mB D cI cZ ad t.2 v1 v2 v3 v4 v5 v6 v7 v8 t9) (mA ad s.heap.size)) args s 0 0 (mA ad s.heap.size)) (F0 m 29 ls [.int y0, .ref (ad 0)]) := by
  obtain ⟨⟨hx, hb, hml, hown, hts⟩, hr, hlk, hK⟩ := id X
  replace hf : (Option.bind (f5_refused_0 y0 v0) (fun t1 => if t1.1 = 0 then (if x2 = 0 then (gd (0 + x1) 171 (some (v1 (Int32.toNatClampNeg (0 + x1)), t1.2))) else (if x2 = 1 then (gd (30 + x1) 171 (some (v1 (Int32.toNatClampNeg (30 + x1)), t1.2))) else (if x2 = 2 then (Option.bind (f5_carsAt_0 v1 1 x1) (fun t8 => some (t8, t1.2))) else (if x2 = 3 then (Option.bind (f5_carsAt_0 v1 3 x1) (fun t10 => some (t10, t1.2))) else (gd (60 + x1) 171 (some (v1 (Int32.toNatClampNeg (60 + x1)), t1.2))))))) else (some (0, t1.2)))) = some t := hf
  obtain ⟨t1, ht1, hf⟩ := bd_o hf
  refine k5_refused X hI hH hl.1 qX5_50 ⟨Nat.le_of_ble_eq_true rfl, Nat.le_of_ble_eq_true rfl⟩ ht1 (Nat.le_of_ble_eq_true rfl) dX5_section_29 ⟨Nat.zero_le _, Nat.zero_le _⟩ (fun H locs hH => ?_)
  refine lv_if_eq (tgt := 37) hx hb dX5_section_32 (by decide) (fun c2 => ?_) (fun c2 => ?_)
  · have hf := it_t c2 hf
    refine lv_iload_n hx hb dX5_section_37 rfl (lv_at hl 2 rfl) ?_
    by_cases c3 : x2 = 0
    · have hf := it_t c3 hf
      refine lv_tableIn (off := 30) (tgt := 68) hx hb dX5_section_38 (by rw [c3]; decide) (by rw [c3]; decide) (by rw [c3]; rfl) (by decide) ?_
      refine lv_aload_n hx hb dX5_section_68 rfl (lv_at hl 0 rfl) ?_
      refine mr_get X hH.1 (k := 0) (v := .ref (ad 1)) (by decide) gfX5_7 rfl dX5_section_69 ?_
      refine lv_iconst (v := 0) hx hb dX5_section_72 (by decide) ?_
      refine lv_iload_n hx hb dX5_section_73 rfl (lv_at hl 1 rfl) ?_
      refine lv_iadd hx hb dX5_section_74 ?_
      obtain ⟨hi4, hf⟩ := gd_o hf
      refine mr_ld1 X hH.1 hi4 dX5_section_75 ?_
      obtain rfl := so_i hf
      exact mr_iw X hH rfl dX5_section_76
    · have hf := it_f c3 hf
      by_cases c5 : x2 = 1
      · have hf := it_t c5 hf
        refine lv_tableIn (off := 39) (tgt := 77) hx hb dX5_section_38 (by rw [c5]; decide) (by rw [c5]; decide) (by rw [c5]; rfl) (by decide) ?_
        refine lv_aload_n hx hb dX5_section_77 rfl (lv_at hl 0 rfl) ?_
        refine mr_get X hH.1 (k := 0) (v := .ref (ad 1)) (by decide) gfX5_7 rfl dX5_section_78 ?_
        refine lv_bipush (v := 30) hx hb dX5_section_81 (by decide) ?_
        refine lv_iload_n hx hb dX5_section_83 rfl (lv_at hl 1 rfl) ?_
        refine lv_iadd hx hb dX5_section_84 ?_
        obtain ⟨hi6, hf⟩ := gd_o hf
        refine mr_ld1 X hH.1 hi6 dX5_section_85 ?_
        obtain rfl := so_i hf
        exact mr_iw X hH rfl dX5_section_86
      · have hf := it_f c5 hf
        by_cases c7 : x2 = 2
        · have hf := it_t c7 hf
          refine lv_tableIn (off := 49) (tgt := 87) hx hb dX5_section_38 (by rw [c7]; decide) (by rw [c7]; decide) (by rw [c7]; rfl) (by decide) ?_
          refine lv_aload_n hx hb dX5_section_87 rfl (lv_at hl 0 rfl) ?_
          refine lv_iconst (v := 1) hx hb dX5_section_88 (by decide) ?_
          refine lv_iload_n hx hb dX5_section_89 rfl (lv_at hl 1 rfl) ?_
          obtain ⟨t8, ht8, hf⟩ := bd_o hf
          refine k5_carsAt X hH.1 hl.1 qX5_182 ⟨Nat.le_of_ble_eq_true rfl, Nat.le_of_ble_eq_true rfl⟩ ht8 (Nat.le_of_ble_eq_true rfl) dX5_section_90 ⟨Nat.zero_le _, Nat.zero_le _⟩ ?_
          obtain rfl := so_i hf
          exact mr_iw X hH rfl dX5_section_93
        · have hf := it_f c7 hf
          by_cases c9 : x2 = 3
          · have hf := it_t c9 hf
            refine lv_tableIn (off := 56) (tgt := 94) hx hb dX5_section_38 (by rw [c9]; decide) (by rw [c9]; decide) (by rw [c9]; rfl) (by decide) ?_
            refine lv_aload_n hx hb dX5_section_94 rfl (lv_at hl 0 rfl) ?_
            refine lv_iconst (v := 3) hx hb dX5_section_95 (by decide) ?_
            refine lv_iload_n hx hb dX5_section_96 rfl (lv_at hl 1 rfl) ?_
            obtain ⟨t10, ht10, hf⟩ := bd_o hf
            refine k5_carsAt X hH.1 hl.1 qX5_182 ⟨Nat.le_of_ble_eq_true rfl, Nat.le_of_ble_eq_true rfl⟩ ht10 (Nat.le_of_ble_eq_true rfl) dX5_section_97 ⟨Nat.zero_le _, Nat.zero_le _⟩ ?_
            obtain rfl := so_i hf
            exact mr_iw X hH rfl dX5_section_100
          · have hf := it_f c9 hf
            have nc3 : ¬ Int32.toInt x2 = 0 := ne_ti c3 (by decide)
            have nc5 : ¬ Int32.toInt x2 = 1 := ne_ti c5 (by decide)
            have nc7 : ¬ Int32.toInt x2 = 2 := ne_ti c7 (by decide)
            have nc9 : ¬ Int32.toInt x2 = 3 := ne_ti c9 (by decide)
            refine lv_tableOut (tgt := 101) hx hb dX5_section_38 (by omega) (by decide) ?_
            refine lv_aload_n hx hb dX5_section_101 rfl (lv_at hl 0 rfl) ?_
            refine mr_get X hH.1 (k := 0) (v := .ref (ad 1)) (by decide) gfX5_7 rfl dX5_section_102 ?_
            refine lv_bipush (v := 60) hx hb dX5_section_105 (by decide) ?_
            refine lv_iload_n hx hb dX5_section_107 rfl (lv_at hl 1 rfl) ?_
            refine lv_iadd hx hb dX5_section_108 ?_
            obtain ⟨hi11, hf⟩ := gd_o hf
            refine mr_ld1 X hH.1 hi11 dX5_section_109 ?_
            obtain rfl := so_i hf
            exact mr_iw X hH rfl dX5_section_110
  · have hf := it_f c2 hf
    refine lv_iconst (v := 0) hx hb dX5_section_35 (by decide) ?_
    obtain rfl := so_i hf
    exact mr_iw X hH rfl dX5_section_36
def f5_section_0 (v1 : Nat → Int32) (x1 : Int32) (x2 : Int32) (v0 : Nat → Int32) : Option (Int32 × (Nat → Int32)) := Option.bind (f5_in_0 x1 0 29) (fun t1 => if t1 = 0 then (f5_section_29 v1 x1 x2 1 v0) else (Option.bind (f5_in_0 x2 0 4) (fun t3 => if t3 = 0 then (f5_section_29 v1 x1 x2 2 v0) else (f5_section_29 v1 x1 x2 0 v0))))
set_option maxRecDepth 100000 in
set_option maxHeartbeats 4000000 in
theorem w5_section_0 {p : Program} {l : Launch} {e : Env} {s : State} {m : MethodId} {args : Array Value} {below : List Frame} {meth : Method} {c : Code} {D : va_G} {cI cZ : ClassId} {ad : Nat → Nat} {v0 v1 v2 v3 v4 v5 v6 v7 v8 : Nat → Int32} (X : mX D cI cZ p s m args meth c cX5_section 3 (some .int)) (hI : mInj ad) {x1 : Int32} {x2 : Int32} {t : Int32 × (Nat → Int32)}  {H : Heap} {locs : List Loc} (hH : mH D cI cZ ad v0 v1 v2 v3 v4 v5 v6 v7 v8 s H locs) {ls : Array Slot} (hl : lv_has ls 3 [(0, .ref (ad 0)), (1, .int x1), (2, .int x2)]) (hf : f5_section_0 v1 x1 x2 v0 = some t) : W p l e rm5_section s m args below meth c H locs 0 0 (MQ below (va_Qi (fun (r9 : Int32) (_ : Unit) => r9 = t.1) (fun _ t9 => mB D cI cZ ad t.2 v1 v2 v3 v4 v5 v6 v7 v8 t9) (mA ad s.heap.size)) args s 0 0 (mA ad s.heap.size)) (F0 m 0 ls []) := by
  obtain ⟨⟨hx, hb, hml, hown, hts⟩, hr, hlk, hK⟩ := id X
  replace hf : (Option.bind (f5_in_0 x1 0 29) (fun t1 => if t1 = 0 then (f5_section_29 v1 x1 x2 1 v0) else (Option.bind (f5_in_0 x2 0 4) (fun t3 => if t3 = 0 then (f5_section_29 v1 x1 x2 2 v0) else (f5_section_29 v1 x1 x2 0 v0))))) = some t := hf
  refine lv_aload_n hx hb dX5_section_0 rfl (lv_at hl 0 rfl) ?_
  refine lv_iload_n hx hb dX5_section_1 rfl (lv_at hl 1 rfl) ?_
  refine lv_iconst (v := 0) hx hb dX5_section_2 (by decide) ?_
  refine lv_bipush (v := 29) hx hb dX5_section_3 (by decide) ?_
  obtain ⟨t1, ht1, hf⟩ := bd_o hf
  refine k5_in X.1 hl.1 qX5_39 ⟨Nat.le_of_ble_eq_true rfl, Nat.le_of_ble_eq_true rfl⟩ ht1 (Nat.le_of_ble_eq_true rfl) dX5_section_5 ⟨Nat.zero_le _, Nat.zero_le _⟩ ?_
  refine lv_if_ne (tgt := 15) hx hb dX5_section_8 (by decide) (fun c2 => ?_) (fun c2 => ?_)
  · have hf := it_f c2 hf
    refine lv_iload_n hx hb dX5_section_15 rfl (lv_at hl 2 rfl) ?_
    refine lv_iconst (v := 0) hx hb dX5_section_16 (by decide) ?_
    refine lv_iconst (v := 4) hx hb dX5_section_17 (by decide) ?_
    obtain ⟨t3, ht3, hf⟩ := bd_o hf
    refine k5_in X.1 hl.1 qX5_39 ⟨Nat.le_of_ble_eq_true rfl, Nat.le_of_ble_eq_true rfl⟩ ht3 (Nat.le_of_ble_eq_true rfl) dX5_section_18 ⟨Nat.zero_le _, Nat.zero_le _⟩ ?_
    refine lv_if_eq (tgt := 28) hx hb dX5_section_21 (by decide) (fun c4 => ?_) (fun c4 => ?_)
    · have hf := it_t c4 hf
      refine lv_iconst (v := 2) hx hb dX5_section_28 (by decide) ?_
      exact w5_section_29 X hI hH (lv_sub hl [0, 1, 2] rfl) hf
    · have hf := it_f c4 hf
      refine lv_iconst (v := 0) hx hb dX5_section_24 (by decide) ?_
      refine lv_goto (tgt := 29) hx hb dX5_section_25 (by decide) ?_
      exact w5_section_29 X hI hH (lv_sub hl [0, 1, 2] rfl) hf
  · have hf := it_t c2 hf
    refine lv_iconst (v := 1) hx hb dX5_section_11 (by decide) ?_
    refine lv_goto (tgt := 29) hx hb dX5_section_12 (by decide) ?_
    exact w5_section_29 X hI hH (lv_sub hl [0, 1, 2] rfl) hf
set_option maxRecDepth 100000 in
set_option maxHeartbeats 4000000 in
theorem c5_section (l : Launch) {D : va_G} {cI cZ : ClassId} {ad : Nat → Nat} {v0 v1 v2 v3 v4 v5 v6 v7 v8 : Nat → Int32} (hI : mInj ad) (sz : Nat) (x1 : Int32) (x2 : Int32) {t : Int32 × (Nat → Int32)} (hf : f5_section_0 v1 x1 x2 v0 = some t) : Met l yX5_section uX5_section rm5_section (va_Pc [.ref (ad 0), .int x1, .int x2] (fun U => U.heap.size = sz ∧ mB D cI cZ ad v0 v1 v2 v3 v4 v5 v6 v7 v8 U)) (va_Qi (fun (r9 : Int32) (_ : Unit) => r9 = t.1) (fun _ t9 => mB D cI cZ ad t.2 v1 v2 v3 v4 v5 v6 v7 v8 t9) (mA ad sz)) 0 0 (mA ad sz) := by
  refine Met.ofW (cc := cX5_section) (maxL := 3) (ret := (some .int)) (by decide) rfl ?_
  intro p e s m args below meth c s₁ B hml hv
  obtain ⟨rfl, hsz, hP, hK⟩ := hv
  subst hsz
  have X : mX D cI cZ p s m ([.ref (ad 0), .int x1, .int x2] : List Value).toArray meth c cX5_section 3 (some .int) := ⟨⟨B.exec, B.bytes, hml, findClass_of_methodNamed B.named, fun w h => atoms_spec (ws := uX5_section) B.pre w (List.mem_cons_of_mem _ h)⟩, B.returns, B.notSynchronized, hK⟩
  have hl := lv_entry ([.ref (ad 0), .int x1, .int x2]) (n := 3) (Nat.le_of_ble_eq_true rfl)
  rw [lg_entry_eq]
  generalize (lg_sl ([.ref (ad 0), .int x1, .int x2]) ++ List.replicate (3 - (lg_sl ([.ref (ad 0), .int x1, .int x2])).length) Slot.unset).toArray = ls at hl ⊢
  have hl : lv_has ls 3 [(0, .ref (ad 0)), (1, .int x1), (2, .int x2)] := hl
  exact w5_section_0 X hI ⟨hP, va_S.rf⟩ (lv_sub hl [0, 1, 2] rfl) hf
set_option maxRecDepth 100000 in
set_option maxHeartbeats 4000000 in
theorem k5_section {p : Program} {l : Launch} {e : Env} {R : Room} {s : State} {m : MethodId} {args : Array Value} {below : List Frame} {meth : Method} {c : Code} {cc : ByteArray} {nL : Nat} {ret : Option FieldType} {D : va_G} {cI cZ : ClassId} {ad : Nat → Nat} {v0 v1 v2 v3 v4 v5 v6 v7 v8 : Nat → Int32} {H : Heap} {locs : List Loc} {cells slots : Nat} {Q : State → Prop} {pc : Nat} {ls : Array Slot} {rest : List Value} (X : mX D cI cZ p s m args meth c cc nL ret) (hI : mInj ad) (hH : mH D cI cZ ad v0 v1 v2 v3 v4 v5 v6 v7 v8 s H locs) (hls : ls.size = nL) {index : Nat} (hG : GoodIn gw (wsV RX5 index RX5 yX5_section uX5_section)) (hR : rm5_section.frames + 1 ≤ R.frames ∧ 8 + (3 + 11) + rm5_section.locals ≤ R.locals) {x1 : Int32} {x2 : Int32} {t : Int32 × (Nat → Int32)} (hf : f5_section_0 v1 x1 x2 v0 = some t) (hrest : (rest.map fun v => v.category).sum ≤ 8) (hdg : decode cc pc = .ok (.invokevirtual index, 3)) (hc : cells ≤ R.cells ∧ slots ≤ R.slots) (kk : ∀ (H1 : Heap) (locs1 : List Loc), mH D cI cZ ad t.2 v1 v2 v3 v4 v5 v6 v7 v8 s H1 locs1 → W p l e R s m args below meth c H1 locs1 cells slots Q (F0 m (pc + 3) ls (.int t.1 :: rest))) : W p l e R s m args below meth c H locs cells slots Q (F0 m pc ls (.int x2 :: .int x1 :: .ref (ad 0) :: rest)) := by
  have hA : ∀ q, mA ad H.size q → mA ad s.heap.size q := fun q h => h.elim Or.inl (fun h => Or.inr (Nat.le_trans hH.2.1 h))
  refine va_calli (va_runV (As := [.int x1, .int x2]) (rest := rest) X.1 (c5_section l hI H.size x1 x2 hf) (cwV 2 X.1.2.2.2.2 hG rfl rfl rfl (by decide +kernel) hR) ⟨mBs_bl, va_recv X.2.2.2 hH.1 (ci := 5) (q0 := 0) rfl rfl, fun U hU hW => ⟨rfl, by rw [hU], by rw [hU]; exact hH.1, va_K.moved hW.alike X.2.2.2⟩⟩ rfl rfl hls rfl (lv_room hrest) hdg hc) hH.2 (fun q _ h => hA q h) hA (fun r9 u t9 H1 locs1 ht hvm hw hB hz1 hk1 hS => ?_)
  subst hw
  exact kk H1 locs1 ⟨by rw [← ht]; exact hB.1, hS⟩
/-! OreRailwayModel.carOf(II)I -/
def rm5_carOf : Room := { frames := 2, cells := 0, slots := 0, locals := 43 }
def f5_carOf_81 (v1 : Nat → Int32) (y0 : Int32) (v0 : Nat → Int32) : Option (Int32 × (Nat → Int32)) := some (y0, v0)
set_option maxRecDepth 100000 in
set_option maxHeartbeats 4000000 in
theorem w5_carOf_81 {p : Program} {l : Launch} {e : Env} {s : State} {m : MethodId} {args : Array Value} {below : List Frame} {meth : Method} {c : Code} {D : va_G} {cI cZ : ClassId} {ad : Nat → Nat} {v0 v1 v2 v3 v4 v5 v6 v7 v8 : Nat → Int32} (X : mX D cI cZ p s m args meth c cX5_carOf 3 (some .int)) (hI : mInj ad) {y0 : Int32} {t : Int32 × (Nat → Int32)}  {H : Heap} {locs : List Loc} (hH : mH D cI cZ ad v0 v1 v2 v3 v4 v5 v6 v7 v8 s H locs) {ls : Array Slot} (hl : lv_has ls 3 []) (hf : f5_carOf_81 v1 y0 v0 = some t) : W p l e rm5_carOf s m args below meth c H locs 0 0 (MQ below (va_Qi (fun (r9 : Int32) (_ : Unit) => r9 = t.1) (fun _ t9 => mB D cI cZ ad t.2 v1 v2 v3 v4 v5 v6 v7 v8 t9) (mA ad s.heap.size)) args s 0 0 (mA ad s.heap.size)) (F0 m 81 ls [.int y0]) := by
  obtain ⟨⟨hx, hb, hml, hown, hts⟩, hr, hlk, hK⟩ := id X
  replace hf : (some (y0, v0)) = some t := hf
  obtain rfl := so_i hf
  exact mr_iw X hH rfl dX5_carOf_81
def f5_carOf_28 (v1 : Nat → Int32) (x1 : Int32) (x2 : Int32) (y0 : Int32) (v0 : Nat → Int32) : Option (Int32 × (Nat → Int32)) := Option.bind (f5_refused_0 y0 v0) (fun t1 => if t1.1 = 0 then (if 6 ≤ x2 then (if x2 = 6 then (Option.bind (f5_force_0 v1 x1) (fun t6 => f5_carOf_81 v1 t6 t1.2)) else (gd (e5_of x1 (x2 - 1)) 171 (f5_carOf_81 v1 (v1 (Int32.toNatClampNeg (e5_of x1 (x2 - 1)))) t1.2))) else (gd (e5_of x1 x2) 171 (f5_carOf_81 v1 (v1 (Int32.toNatClampNeg (e5_of x1 x2))) t1.2))) else (some (0, t1.2)))
set_option maxRecDepth 100000 in
set_option maxHeartbeats 4000000 in
theorem w5_carOf_28 {p : Program} {l : Launch} {e : Env} {s : State} {m : MethodId} {args : Array Value} {below : List Frame} {meth : Method} {c : Code} {D : va_G} {cI cZ : ClassId} {ad : Nat → Nat} {v0 v1 v2 v3 v4 v5 v6 v7 v8 : Nat → Int32} (X : mX D cI cZ p s m args meth c cX5_carOf 3 (some .int)) (hI : mInj ad) {x1 : Int32} {x2 : Int32} {y0 : Int32} {t : Int32 × (Nat → Int32)}  {H : Heap} {locs : List Loc} (hH : mH D cI cZ ad v0 v1 v2 v3 v4 v5 v6 v7 v8 s H locs) {ls : Array Slot} (hl : lv_has ls 3 [(0, .ref (ad 0)), (1, .int x1), (2, .int x2)]) (hf : f5_carOf_28 v1 x1 x2 y0 v0 = some t) : W p l e rm5_carOf s m args below meth c H locs 0 0 (MQ below (va_Qi (fun (r9 : Int32) (_ : Unit) => r9 = t.1) (fun _ t9 => mB D cI cZ ad t.2 v1 v2 v3 v4 v5 v6 v7 v8 t9) (mA ad s.heap.size)) args s 0 0 (mA ad s.heap.size)) (F0 m 28 ls [.int y0, .ref (ad 0)]) := by
  obtain ⟨⟨hx, hb, hml, hown, hts⟩, hr, hlk, hK⟩ := id X
  replace hf : (Option.bind (f5_refused_0 y0 v0) (fun t1 => if t1.1 = 0 then (if 6 ≤ x2 then (if x2 = 6 then (Option.bind (f5_force_0 v1 x1) (fun t6 => f5_carOf_81 v1 t6 t1.2)) else (gd (e5_of x1 (x2 - 1)) 171 (f5_carOf_81 v1 (v1 (Int32.toNatClampNeg (e5_of x1 (x2 - 1)))) t1.2))) else (gd (e5_of x1 x2) 171 (f5_carOf_81 v1 (v1 (Int32.toNatClampNeg (e5_of x1 x2))) t1.2))) else (some (0, t1.2)))) = some t := hf
  obtain ⟨t1, ht1, hf⟩ := bd_o hf
  refine k5_refused X hI hH hl.1 qX5_50 ⟨Nat.le_of_ble_eq_true rfl, Nat.le_of_ble_eq_true rfl⟩ ht1 (Nat.le_of_ble_eq_true rfl) dX5_carOf_28 ⟨Nat.zero_le _, Nat.zero_le _⟩ (fun H locs hH => ?_)
  refine lv_if_eq (tgt := 36) hx hb dX5_carOf_31 (by decide) (fun c2 => ?_) (fun c2 => ?_)
  · have hf := it_t c2 hf
    refine lv_iload_n hx hb dX5_carOf_36 rfl (lv_at hl 2 rfl) ?_
    refine lv_bipush (v := 6) hx hb dX5_carOf_37 (by decide) ?_
    refine lv_icmp_ge (tgt := 55) hx hb dX5_carOf_39 (by decide) (fun c3 => ?_) (fun c3 => ?_)
    · have hf := it_t c3 hf
      refine lv_iload_n hx hb dX5_carOf_55 rfl (lv_at hl 2 rfl) ?_
      refine lv_bipush (v := 6) hx hb dX5_carOf_56 (by decide) ?_
      refine lv_icmp_ne (tgt := 69) hx hb dX5_carOf_58 (by decide) (fun c4 => ?_) (fun c4 => ?_)
      · have hf := it_f c4 hf
        refine lv_aload_n hx hb dX5_carOf_69 rfl (lv_at hl 0 rfl) ?_
        refine mr_get X hH.1 (k := 0) (v := .ref (ad 1)) (by decide) gfX5_7 rfl dX5_carOf_70 ?_
        refine lv_iload_n hx hb dX5_carOf_73 rfl (lv_at hl 1 rfl) ?_
        refine lv_iload_n hx hb dX5_carOf_74 rfl (lv_at hl 2 rfl) ?_
        refine lv_iconst (v := 1) hx hb dX5_carOf_75 (by decide) ?_
        refine lv_isub hx hb dX5_carOf_76 ?_
        refine k5_of X.1 hl.1 qX5_43 ⟨Nat.le_of_ble_eq_true rfl, Nat.le_of_ble_eq_true rfl⟩ (Nat.le_of_ble_eq_true rfl) dX5_carOf_77 ⟨Nat.zero_le _, Nat.zero_le _⟩ ?_
        obtain ⟨hi5, hf⟩ := gd_o hf
        refine mr_ld1 X hH.1 hi5 dX5_carOf_80 ?_
        exact w5_carOf_81 X hI hH (lv_sub hl [] rfl) hf
      · have hf := it_t c4 hf
        refine lv_aload_n hx hb dX5_carOf_61 rfl (lv_at hl 0 rfl) ?_
        refine lv_iload_n hx hb dX5_carOf_62 rfl (lv_at hl 1 rfl) ?_
        obtain ⟨t6, ht6, hf⟩ := bd_o hf
        refine k5_force X hH.1 hl.1 qX5_114 ⟨Nat.le_of_ble_eq_true rfl, Nat.le_of_ble_eq_true rfl⟩ ht6 (Nat.le_of_ble_eq_true rfl) dX5_carOf_63 ⟨Nat.zero_le _, Nat.zero_le _⟩ ?_
        refine lv_goto (tgt := 81) hx hb dX5_carOf_66 (by decide) ?_
        exact w5_carOf_81 X hI hH (lv_sub hl [] rfl) hf
    · have hf := it_f c3 hf
      refine lv_aload_n hx hb dX5_carOf_42 rfl (lv_at hl 0 rfl) ?_
      refine mr_get X hH.1 (k := 0) (v := .ref (ad 1)) (by decide) gfX5_7 rfl dX5_carOf_43 ?_
      refine lv_iload_n hx hb dX5_carOf_46 rfl (lv_at hl 1 rfl) ?_
      refine lv_iload_n hx hb dX5_carOf_47 rfl (lv_at hl 2 rfl) ?_
      refine k5_of X.1 hl.1 qX5_43 ⟨Nat.le_of_ble_eq_true rfl, Nat.le_of_ble_eq_true rfl⟩ (Nat.le_of_ble_eq_true rfl) dX5_carOf_48 ⟨Nat.zero_le _, Nat.zero_le _⟩ ?_
      obtain ⟨hi7, hf⟩ := gd_o hf
      refine mr_ld1 X hH.1 hi7 dX5_carOf_51 ?_
      refine lv_goto (tgt := 81) hx hb dX5_carOf_52 (by decide) ?_
      exact w5_carOf_81 X hI hH (lv_sub hl [] rfl) hf
  · have hf := it_f c2 hf
    refine lv_iconst (v := 0) hx hb dX5_carOf_34 (by decide) ?_
    obtain rfl := so_i hf
    exact mr_iw X hH rfl dX5_carOf_35
def f5_carOf_0 (v1 : Nat → Int32) (x1 : Int32) (x2 : Int32) (v0 : Nat → Int32) : Option (Int32 × (Nat → Int32)) := Option.bind (f5_isCar_0 v1 x1) (fun t1 => if t1 = 0 then (f5_carOf_28 v1 x1 x2 1 v0) else (Option.bind (f5_in_0 x2 0 9) (fun t3 => if t3 = 0 then (f5_carOf_28 v1 x1 x2 2 v0) else (f5_carOf_28 v1 x1 x2 0 v0))))
set_option maxRecDepth 100000 in
set_option maxHeartbeats 4000000 in
theorem w5_carOf_0 {p : Program} {l : Launch} {e : Env} {s : State} {m : MethodId} {args : Array Value} {below : List Frame} {meth : Method} {c : Code} {D : va_G} {cI cZ : ClassId} {ad : Nat → Nat} {v0 v1 v2 v3 v4 v5 v6 v7 v8 : Nat → Int32} (X : mX D cI cZ p s m args meth c cX5_carOf 3 (some .int)) (hI : mInj ad) {x1 : Int32} {x2 : Int32} {t : Int32 × (Nat → Int32)}  {H : Heap} {locs : List Loc} (hH : mH D cI cZ ad v0 v1 v2 v3 v4 v5 v6 v7 v8 s H locs) {ls : Array Slot} (hl : lv_has ls 3 [(0, .ref (ad 0)), (1, .int x1), (2, .int x2)]) (hf : f5_carOf_0 v1 x1 x2 v0 = some t) : W p l e rm5_carOf s m args below meth c H locs 0 0 (MQ below (va_Qi (fun (r9 : Int32) (_ : Unit) => r9 = t.1) (fun _ t9 => mB D cI cZ ad t.2 v1 v2 v3 v4 v5 v6 v7 v8 t9) (mA ad s.heap.size)) args s 0 0 (mA ad s.heap.size)) (F0 m 0 ls []) := by
  obtain ⟨⟨hx, hb, hml, hown, hts⟩, hr, hlk, hK⟩ := id X
  replace hf : (Option.bind (f5_isCar_0 v1 x1) (fun t1 => if t1 = 0 then (f5_carOf_28 v1 x1 x2 1 v0) else (Option.bind (f5_in_0 x2 0 9) (fun t3 => if t3 = 0 then (f5_carOf_28 v1 x1 x2 2 v0) else (f5_carOf_28 v1 x1 x2 0 v0))))) = some t := hf
  refine lv_aload_n hx hb dX5_carOf_0 rfl (lv_at hl 0 rfl) ?_
  refine lv_aload_n hx hb dX5_carOf_1 rfl (lv_at hl 0 rfl) ?_
  refine lv_iload_n hx hb dX5_carOf_2 rfl (lv_at hl 1 rfl) ?_
  obtain ⟨t1, ht1, hf⟩ := bd_o hf
  refine k5_isCar X hH.1 hl.1 qX5_64 ⟨Nat.le_of_ble_eq_true rfl, Nat.le_of_ble_eq_true rfl⟩ ht1 (Nat.le_of_ble_eq_true rfl) dX5_carOf_3 ⟨Nat.zero_le _, Nat.zero_le _⟩ ?_
  refine lv_if_ne (tgt := 13) hx hb dX5_carOf_6 (by decide) (fun c2 => ?_) (fun c2 => ?_)
  · have hf := it_f c2 hf
    refine lv_iload_n hx hb dX5_carOf_13 rfl (lv_at hl 2 rfl) ?_
    refine lv_iconst (v := 0) hx hb dX5_carOf_14 (by decide) ?_
    refine lv_bipush (v := 9) hx hb dX5_carOf_15 (by decide) ?_
    obtain ⟨t3, ht3, hf⟩ := bd_o hf
    refine k5_in X.1 hl.1 qX5_39 ⟨Nat.le_of_ble_eq_true rfl, Nat.le_of_ble_eq_true rfl⟩ ht3 (Nat.le_of_ble_eq_true rfl) dX5_carOf_17 ⟨Nat.zero_le _, Nat.zero_le _⟩ ?_
    refine lv_if_eq (tgt := 27) hx hb dX5_carOf_20 (by decide) (fun c4 => ?_) (fun c4 => ?_)
    · have hf := it_t c4 hf
      refine lv_iconst (v := 2) hx hb dX5_carOf_27 (by decide) ?_
      exact w5_carOf_28 X hI hH (lv_sub hl [0, 1, 2] rfl) hf
    · have hf := it_f c4 hf
      refine lv_iconst (v := 0) hx hb dX5_carOf_23 (by decide) ?_
      refine lv_goto (tgt := 28) hx hb dX5_carOf_24 (by decide) ?_
      exact w5_carOf_28 X hI hH (lv_sub hl [0, 1, 2] rfl) hf
  · have hf := it_t c2 hf
    refine lv_iconst (v := 1) hx hb dX5_carOf_9 (by decide) ?_
    refine lv_goto (tgt := 28) hx hb dX5_carOf_10 (by decide) ?_
    exact w5_carOf_28 X hI hH (lv_sub hl [0, 1, 2] rfl) hf
set_option maxRecDepth 100000 in
set_option maxHeartbeats 4000000 in
theorem c5_carOf (l : Launch) {D : va_G} {cI cZ : ClassId} {ad : Nat → Nat} {v0 v1 v2 v3 v4 v5 v6 v7 v8 : Nat → Int32} (hI : mInj ad) (sz : Nat) (x1 : Int32) (x2 : Int32) {t : Int32 × (Nat → Int32)} (hf : f5_carOf_0 v1 x1 x2 v0 = some t) : Met l yX5_carOf uX5_carOf rm5_carOf (va_Pc [.ref (ad 0), .int x1, .int x2] (fun U => U.heap.size = sz ∧ mB D cI cZ ad v0 v1 v2 v3 v4 v5 v6 v7 v8 U)) (va_Qi (fun (r9 : Int32) (_ : Unit) => r9 = t.1) (fun _ t9 => mB D cI cZ ad t.2 v1 v2 v3 v4 v5 v6 v7 v8 t9) (mA ad sz)) 0 0 (mA ad sz) := by
  refine Met.ofW (cc := cX5_carOf) (maxL := 3) (ret := (some .int)) (by decide) rfl ?_
  intro p e s m args below meth c s₁ B hml hv
  obtain ⟨rfl, hsz, hP, hK⟩ := hv
  subst hsz
  have X : mX D cI cZ p s m ([.ref (ad 0), .int x1, .int x2] : List Value).toArray meth c cX5_carOf 3 (some .int) := ⟨⟨B.exec, B.bytes, hml, findClass_of_methodNamed B.named, fun w h => atoms_spec (ws := uX5_carOf) B.pre w (List.mem_cons_of_mem _ h)⟩, B.returns, B.notSynchronized, hK⟩
  have hl := lv_entry ([.ref (ad 0), .int x1, .int x2]) (n := 3) (Nat.le_of_ble_eq_true rfl)
  rw [lg_entry_eq]
  generalize (lg_sl ([.ref (ad 0), .int x1, .int x2]) ++ List.replicate (3 - (lg_sl ([.ref (ad 0), .int x1, .int x2])).length) Slot.unset).toArray = ls at hl ⊢
  have hl : lv_has ls 3 [(0, .ref (ad 0)), (1, .int x1), (2, .int x2)] := hl
  exact w5_carOf_0 X hI ⟨hP, va_S.rf⟩ (lv_sub hl [0, 1, 2] rfl) hf
set_option maxRecDepth 100000 in
set_option maxHeartbeats 4000000 in
theorem k5_carOf {p : Program} {l : Launch} {e : Env} {R : Room} {s : State} {m : MethodId} {args : Array Value} {below : List Frame} {meth : Method} {c : Code} {cc : ByteArray} {nL : Nat} {ret : Option FieldType} {D : va_G} {cI cZ : ClassId} {ad : Nat → Nat} {v0 v1 v2 v3 v4 v5 v6 v7 v8 : Nat → Int32} {H : Heap} {locs : List Loc} {cells slots : Nat} {Q : State → Prop} {pc : Nat} {ls : Array Slot} {rest : List Value} (X : mX D cI cZ p s m args meth c cc nL ret) (hI : mInj ad) (hH : mH D cI cZ ad v0 v1 v2 v3 v4 v5 v6 v7 v8 s H locs) (hls : ls.size = nL) {index : Nat} (hG : GoodIn gw (wsV RX5 index RX5 yX5_carOf uX5_carOf)) (hR : rm5_carOf.frames + 1 ≤ R.frames ∧ 8 + (3 + 11) + rm5_carOf.locals ≤ R.locals) {x1 : Int32} {x2 : Int32} {t : Int32 × (Nat → Int32)} (hf : f5_carOf_0 v1 x1 x2 v0 = some t) (hrest : (rest.map fun v => v.category).sum ≤ 8) (hdg : decode cc pc = .ok (.invokevirtual index, 3)) (hc : cells ≤ R.cells ∧ slots ≤ R.slots) (kk : ∀ (H1 : Heap) (locs1 : List Loc), mH D cI cZ ad t.2 v1 v2 v3 v4 v5 v6 v7 v8 s H1 locs1 → W p l e R s m args below meth c H1 locs1 cells slots Q (F0 m (pc + 3) ls (.int t.1 :: rest))) : W p l e R s m args below meth c H locs cells slots Q (F0 m pc ls (.int x2 :: .int x1 :: .ref (ad 0) :: rest)) := by
  have hA : ∀ q, mA ad H.size q → mA ad s.heap.size q := fun q h => h.elim Or.inl (fun h => Or.inr (Nat.le_trans hH.2.1 h))
  refine va_calli (va_runV (As := [.int x1, .int x2]) (rest := rest) X.1 (c5_carOf l hI H.size x1 x2 hf) (cwV 2 X.1.2.2.2.2 hG rfl rfl rfl (by decide +kernel) hR) ⟨mBs_bl, va_recv X.2.2.2 hH.1 (ci := 5) (q0 := 0) rfl rfl, fun U hU hW => ⟨rfl, by rw [hU], by rw [hU]; exact hH.1, va_K.moved hW.alike X.2.2.2⟩⟩ rfl rfl hls rfl (lv_room hrest) hdg hc) hH.2 (fun q _ h => hA q h) hA (fun r9 u t9 H1 locs1 ht hvm hw hB hz1 hk1 hS => ?_)
  subst hw
  exact kk H1 locs1 ⟨by rw [← ht]; exact hB.1, hS⟩
/-! OreRailwayModel.cars(I)I -/
def rm5_cars : Room := { frames := 3, cells := 0, slots := 0, locals := 68 }
def f5_cars_15 (v1 : Nat → Int32) (x1 : Int32) (y0 : Int32) (v0 : Nat → Int32) : Option (Int32 × (Nat → Int32)) := Option.bind (f5_refused_0 y0 v0) (fun t1 => if t1.1 = 0 then (Option.bind (f5_carsAt_0 v1 x1 ((-1))) (fun t3 => some (t3, t1.2))) else (some (0, t1.2)))
set_option maxRecDepth 100000 in
set_option maxHeartbeats 4000000 in
theorem w5_cars_15 {p : Program} {l : Launch} {e : Env} {s : State} {m : MethodId} {args : Array Value} {below : List Frame} {meth : Method} {c : Code} {D : va_G} {cI cZ : ClassId} {ad : Nat → Nat} {v0 v1 v2 v3 v4 v5 v6 v7 v8 : Nat → Int32} (X : mX D cI cZ p s m args meth c cX5_cars 2 (some .int)) (hI : mInj ad) {x1 : Int32} {y0 : Int32} {t : Int32 × (Nat → Int32)}  {H : Heap} {locs : List Loc} (hH : mH D cI cZ ad v0 v1 v2 v3 v4 v5 v6 v7 v8 s H locs) {ls : Array Slot} (hl : lv_has ls 2 [(0, .ref (ad 0)), (1, .int x1)]) (hf : f5_cars_15 v1 x1 y0 v0 = some t) : W p l e rm5_cars s m args below meth c H locs 0 0 (MQ below (va_Qi (fun (r9 : Int32) (_ : Unit) => r9 = t.1) (fun _ t9 => mB D cI cZ ad t.2 v1 v2 v3 v4 v5 v6 v7 v8 t9) (mA ad s.heap.size)) args s 0 0 (mA ad s.heap.size)) (F0 m 15 ls [.int y0, .ref (ad 0)]) := by
  obtain ⟨⟨hx, hb, hml, hown, hts⟩, hr, hlk, hK⟩ := id X
  replace hf : (Option.bind (f5_refused_0 y0 v0) (fun t1 => if t1.1 = 0 then (Option.bind (f5_carsAt_0 v1 x1 ((-1))) (fun t3 => some (t3, t1.2))) else (some (0, t1.2)))) = some t := hf
  obtain ⟨t1, ht1, hf⟩ := bd_o hf
  refine k5_refused X hI hH hl.1 qX5_50 ⟨Nat.le_of_ble_eq_true rfl, Nat.le_of_ble_eq_true rfl⟩ ht1 (Nat.le_of_ble_eq_true rfl) dX5_cars_15 ⟨Nat.zero_le _, Nat.zero_le _⟩ (fun H locs hH => ?_)
  refine lv_if_eq (tgt := 23) hx hb dX5_cars_18 (by decide) (fun c2 => ?_) (fun c2 => ?_)
  · have hf := it_t c2 hf
    refine lv_aload_n hx hb dX5_cars_23 rfl (lv_at hl 0 rfl) ?_
    refine lv_iload_n hx hb dX5_cars_24 rfl (lv_at hl 1 rfl) ?_
    refine lv_iconst (v := (-1)) hx hb dX5_cars_25 (by decide) ?_
    obtain ⟨t3, ht3, hf⟩ := bd_o hf
    refine k5_carsAt X hH.1 hl.1 qX5_182 ⟨Nat.le_of_ble_eq_true rfl, Nat.le_of_ble_eq_true rfl⟩ ht3 (Nat.le_of_ble_eq_true rfl) dX5_cars_26 ⟨Nat.zero_le _, Nat.zero_le _⟩ ?_
    obtain rfl := so_i hf
    exact mr_iw X hH rfl dX5_cars_29
  · have hf := it_f c2 hf
    refine lv_iconst (v := 0) hx hb dX5_cars_21 (by decide) ?_
    obtain rfl := so_i hf
    exact mr_iw X hH rfl dX5_cars_22
def f5_cars_0 (v1 : Nat → Int32) (x1 : Int32) (v0 : Nat → Int32) : Option (Int32 × (Nat → Int32)) := Option.bind (f5_in_0 x1 0 4) (fun t1 => if t1 = 0 then (f5_cars_15 v1 x1 1 v0) else (f5_cars_15 v1 x1 0 v0))
set_option maxRecDepth 100000 in
set_option maxHeartbeats 4000000 in
theorem w5_cars_0 {p : Program} {l : Launch} {e : Env} {s : State} {m : MethodId} {args : Array Value} {below : List Frame} {meth : Method} {c : Code} {D : va_G} {cI cZ : ClassId} {ad : Nat → Nat} {v0 v1 v2 v3 v4 v5 v6 v7 v8 : Nat → Int32} (X : mX D cI cZ p s m args meth c cX5_cars 2 (some .int)) (hI : mInj ad) {x1 : Int32} {t : Int32 × (Nat → Int32)}  {H : Heap} {locs : List Loc} (hH : mH D cI cZ ad v0 v1 v2 v3 v4 v5 v6 v7 v8 s H locs) {ls : Array Slot} (hl : lv_has ls 2 [(0, .ref (ad 0)), (1, .int x1)]) (hf : f5_cars_0 v1 x1 v0 = some t) : W p l e rm5_cars s m args below meth c H locs 0 0 (MQ below (va_Qi (fun (r9 : Int32) (_ : Unit) => r9 = t.1) (fun _ t9 => mB D cI cZ ad t.2 v1 v2 v3 v4 v5 v6 v7 v8 t9) (mA ad s.heap.size)) args s 0 0 (mA ad s.heap.size)) (F0 m 0 ls []) := by
  obtain ⟨⟨hx, hb, hml, hown, hts⟩, hr, hlk, hK⟩ := id X
  replace hf : (Option.bind (f5_in_0 x1 0 4) (fun t1 => if t1 = 0 then (f5_cars_15 v1 x1 1 v0) else (f5_cars_15 v1 x1 0 v0))) = some t := hf
  refine lv_aload_n hx hb dX5_cars_0 rfl (lv_at hl 0 rfl) ?_
  refine lv_iload_n hx hb dX5_cars_1 rfl (lv_at hl 1 rfl) ?_
  refine lv_iconst (v := 0) hx hb dX5_cars_2 (by decide) ?_
  refine lv_iconst (v := 4) hx hb dX5_cars_3 (by decide) ?_
  obtain ⟨t1, ht1, hf⟩ := bd_o hf
  refine k5_in X.1 hl.1 qX5_39 ⟨Nat.le_of_ble_eq_true rfl, Nat.le_of_ble_eq_true rfl⟩ ht1 (Nat.le_of_ble_eq_true rfl) dX5_cars_4 ⟨Nat.zero_le _, Nat.zero_le _⟩ ?_
  refine lv_if_eq (tgt := 14) hx hb dX5_cars_7 (by decide) (fun c2 => ?_) (fun c2 => ?_)
  · have hf := it_t c2 hf
    refine lv_iconst (v := 1) hx hb dX5_cars_14 (by decide) ?_
    exact w5_cars_15 X hI hH (lv_sub hl [0, 1] rfl) hf
  · have hf := it_f c2 hf
    refine lv_iconst (v := 0) hx hb dX5_cars_10 (by decide) ?_
    refine lv_goto (tgt := 15) hx hb dX5_cars_11 (by decide) ?_
    exact w5_cars_15 X hI hH (lv_sub hl [0, 1] rfl) hf
set_option maxRecDepth 100000 in
set_option maxHeartbeats 4000000 in
theorem c5_cars (l : Launch) {D : va_G} {cI cZ : ClassId} {ad : Nat → Nat} {v0 v1 v2 v3 v4 v5 v6 v7 v8 : Nat → Int32} (hI : mInj ad) (sz : Nat) (x1 : Int32) {t : Int32 × (Nat → Int32)} (hf : f5_cars_0 v1 x1 v0 = some t) : Met l yX5_cars uX5_cars rm5_cars (va_Pc [.ref (ad 0), .int x1] (fun U => U.heap.size = sz ∧ mB D cI cZ ad v0 v1 v2 v3 v4 v5 v6 v7 v8 U)) (va_Qi (fun (r9 : Int32) (_ : Unit) => r9 = t.1) (fun _ t9 => mB D cI cZ ad t.2 v1 v2 v3 v4 v5 v6 v7 v8 t9) (mA ad sz)) 0 0 (mA ad sz) := by
  refine Met.ofW (cc := cX5_cars) (maxL := 2) (ret := (some .int)) (by decide) rfl ?_
  intro p e s m args below meth c s₁ B hml hv
  obtain ⟨rfl, hsz, hP, hK⟩ := hv
  subst hsz
  have X : mX D cI cZ p s m ([.ref (ad 0), .int x1] : List Value).toArray meth c cX5_cars 2 (some .int) := ⟨⟨B.exec, B.bytes, hml, findClass_of_methodNamed B.named, fun w h => atoms_spec (ws := uX5_cars) B.pre w (List.mem_cons_of_mem _ h)⟩, B.returns, B.notSynchronized, hK⟩
  have hl := lv_entry ([.ref (ad 0), .int x1]) (n := 2) (Nat.le_of_ble_eq_true rfl)
  rw [lg_entry_eq]
  generalize (lg_sl ([.ref (ad 0), .int x1]) ++ List.replicate (2 - (lg_sl ([.ref (ad 0), .int x1])).length) Slot.unset).toArray = ls at hl ⊢
  have hl : lv_has ls 2 [(0, .ref (ad 0)), (1, .int x1)] := hl
  exact w5_cars_0 X hI ⟨hP, va_S.rf⟩ (lv_sub hl [0, 1] rfl) hf
set_option maxRecDepth 100000 in
set_option maxHeartbeats 4000000 in
theorem k5_cars {p : Program} {l : Launch} {e : Env} {R : Room} {s : State} {m : MethodId} {args : Array Value} {below : List Frame} {meth : Method} {c : Code} {cc : ByteArray} {nL : Nat} {ret : Option FieldType} {D : va_G} {cI cZ : ClassId} {ad : Nat → Nat} {v0 v1 v2 v3 v4 v5 v6 v7 v8 : Nat → Int32} {H : Heap} {locs : List Loc} {cells slots : Nat} {Q : State → Prop} {pc : Nat} {ls : Array Slot} {rest : List Value} (X : mX D cI cZ p s m args meth c cc nL ret) (hI : mInj ad) (hH : mH D cI cZ ad v0 v1 v2 v3 v4 v5 v6 v7 v8 s H locs) (hls : ls.size = nL) {index : Nat} (hG : GoodIn gw (wsV RX5 index RX5 yX5_cars uX5_cars)) (hR : rm5_cars.frames + 1 ≤ R.frames ∧ 8 + (2 + 11) + rm5_cars.locals ≤ R.locals) {x1 : Int32} {t : Int32 × (Nat → Int32)} (hf : f5_cars_0 v1 x1 v0 = some t) (hrest : (rest.map fun v => v.category).sum ≤ 8) (hdg : decode cc pc = .ok (.invokevirtual index, 3)) (hc : cells ≤ R.cells ∧ slots ≤ R.slots) (kk : ∀ (H1 : Heap) (locs1 : List Loc), mH D cI cZ ad t.2 v1 v2 v3 v4 v5 v6 v7 v8 s H1 locs1 → W p l e R s m args below meth c H1 locs1 cells slots Q (F0 m (pc + 3) ls (.int t.1 :: rest))) : W p l e R s m args below meth c H locs cells slots Q (F0 m pc ls (.int x1 :: .ref (ad 0) :: rest)) := by
  have hA : ∀ q, mA ad H.size q → mA ad s.heap.size q := fun q h => h.elim Or.inl (fun h => Or.inr (Nat.le_trans hH.2.1 h))
  refine va_calli (va_runV (As := [.int x1]) (rest := rest) X.1 (c5_cars l hI H.size x1 hf) (cwV 1 X.1.2.2.2.2 hG rfl rfl rfl (by decide +kernel) hR) ⟨mBs_bl, va_recv X.2.2.2 hH.1 (ci := 5) (q0 := 0) rfl rfl, fun U hU hW => ⟨rfl, by rw [hU], by rw [hU]; exact hH.1, va_K.moved hW.alike X.2.2.2⟩⟩ rfl rfl hls rfl (lv_room hrest) hdg hc) hH.2 (fun q _ h => hA q h) hA (fun r9 u t9 H1 locs1 ht hvm hw hB hz1 hk1 hS => ?_)
  subst hw
  exact kk H1 locs1 ⟨by rw [← ht]; exact hB.1, hS⟩
