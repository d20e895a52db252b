/-! OreRailway$Car.copyFrom(LOreRailway$Car;)V -/
def rm0_copyFrom : Room := { frames := 0, cells := 0, slots := 0, locals := 0 }
def f0_copyFrom_72 (j : Nat) (j2 : Nat) (v1 : Nat → Int32) (v0 : Nat → Int32) : Option ((Nat → Int32)) := some (v0)
set_option maxRecDepth 100000 in
set_option maxHeartbeats 4000000 in
theorem w0_copyFrom_72 {p : Program} {l : Launch} {e : Env} {s : State} {m : MethodId} {args : Array Value} {below : List Frame} {meth : Method} {c : Code} {D : va_G} {Y : cYt} {ad : Nat → Nat} {μ : Nat → Nat → Int32} {k : Nat} {v0 : Nat → Int32} {j : Nat} {k2 : Nat} {v1 : Nat → Int32} {j2 : Nat} (X : cX D Y p s m args meth c cX0_copyFrom 2 RX0 none) (hI : cInj ad) (hk : k < 10) (hj : j < 8) (hk2 : k2 < 10) (hne : k2 ≠ k) (hM2 : μ k2 = v1) (hj2 : j2 < 8)  {t : (Nat → Int32)}  {H : Heap} {locs : List Loc} (hH : cH D Y ad (s1 μ k v0) s H locs) {ls : Array Slot} (hl : lv_has ls 2 []) (hf : f0_copyFrom_72 j j2 v1 v0 = some t) : W p l e rm0_copyFrom s m args below meth c H locs 0 0 (MQ below (va_Qv (fun (_ : Unit) => True) (fun _ t9 => cB D Y ad (s1 μ k t) t9) (cA ad s.heap.size)) args s 0 0 (cA ad s.heap.size)) (F0 m 72 ls []) := by
  obtain ⟨⟨hx, hb, hml, hown, hts⟩, hr, hlk, hK⟩ := id X
  replace hf : (some (v0)) = some t := hf
  obtain rfl := so_i hf
  exact cr_vw X hH rfl dX0_copyFrom_72
def f0_copyFrom_64 (j : Nat) (j2 : Nat) (v1 : Nat → Int32) (v0 : Nat → Int32) : Option ((Nat → Int32)) := f0_copyFrom_72 j j2 v1 (upd v0 (90 + 9 * j + 8) (v1 (90 + 9 * j2 + 8)))
set_option maxRecDepth 100000 in
set_option maxHeartbeats 4000000 in
theorem w0_copyFrom_64 {p : Program} {l : Launch} {e : Env} {s : State} {m : MethodId} {args : Array Value} {below : List Frame} {meth : Method} {c : Code} {D : va_G} {Y : cYt} {ad : Nat → Nat} {μ : Nat → Nat → Int32} {k : Nat} {v0 : Nat → Int32} {j : Nat} {k2 : Nat} {v1 : Nat → Int32} {j2 : Nat} (X : cX D Y p s m args meth c cX0_copyFrom 2 RX0 none) (hI : cInj ad) (hk : k < 10) (hj : j < 8) (hk2 : k2 < 10) (hne : k2 ≠ k) (hM2 : μ k2 = v1) (hj2 : j2 < 8)  {t : (Nat → Int32)}  {H : Heap} {locs : List Loc} (hH : cH D Y ad (s1 μ k v0) s H locs) {ls : Array Slot} (hl : lv_has ls 2 [(0, .ref (ad (15 * k + (j + 7)))), (1, .ref (ad (15 * k2 + (j2 + 7))))]) (hf : f0_copyFrom_64 j j2 v1 v0 = some t) : W p l e rm0_copyFrom s m args below meth c H locs 0 0 (MQ below (va_Qv (fun (_ : Unit) => True) (fun _ t9 => cB D Y ad (s1 μ k t) t9) (cA ad s.heap.size)) args s 0 0 (cA ad s.heap.size)) (F0 m 64 ls []) := by
  obtain ⟨⟨hx, hb, hml, hown, hts⟩, hr, hlk, hK⟩ := id X
  replace hf : (f0_copyFrom_72 j j2 v1 (upd v0 (90 + 9 * j + 8) (v1 (90 + 9 * j2 + 8)))) = some t := hf
  refine lv_aload_n hx hb dX0_copyFrom_64 rfl (lv_at hl 0 rfl) ?_
  refine lv_aload_n hx hb dX0_copyFrom_65 rfl (lv_at hl 1 rfl) ?_
  refine cr_gCar X hk2 ((s1_n hne).trans hM2) (j := j2) hj2 hH.1 (i := 8) (v := .int (v1 (90 + 9 * j2 + 8))) (by decide) gfX0_36 rfl dX0_copyFrom_66 ?_
  refine cv_pCar X hI hk hj hH 8 (by decide) gfX0_36 dX0_copyFrom_69 (fun H locs hH => ?_)
  exact w0_copyFrom_72 X hI hk hj hk2 hne hM2 hj2 hH (lv_sub hl [] rfl) hf
def f0_copyFrom_56 (j : Nat) (j2 : Nat) (v1 : Nat → Int32) (v0 : Nat → Int32) : Option ((Nat → Int32)) := f0_copyFrom_64 j j2 v1 (upd v0 (90 + 9 * j + 7) (v1 (90 + 9 * j2 + 7)))
set_option maxRecDepth 100000 in
set_option maxHeartbeats 4000000 in
theorem w0_copyFrom_56 {p : Program} {l : Launch} {e : Env} {s : State} {m : MethodId} {args : Array Value} {below : List Frame} {meth : Method} {c : Code} {D : va_G} {Y : cYt} {ad : Nat → Nat} {μ : Nat → Nat → Int32} {k : Nat} {v0 : Nat → Int32} {j : Nat} {k2 : Nat} {v1 : Nat → Int32} {j2 : Nat} (X : cX D Y p s m args meth c cX0_copyFrom 2 RX0 none) (hI : cInj ad) (hk : k < 10) (hj : j < 8) (hk2 : k2 < 10) (hne : k2 ≠ k) (hM2 : μ k2 = v1) (hj2 : j2 < 8)  {t : (Nat → Int32)}  {H : Heap} {locs : List Loc} (hH : cH D Y ad (s1 μ k v0) s H locs) {ls : Array Slot} (hl : lv_has ls 2 [(0, .ref (ad (15 * k + (j + 7)))), (1, .ref (ad (15 * k2 + (j2 + 7))))]) (hf : f0_copyFrom_56 j j2 v1 v0 = some t) : W p l e rm0_copyFrom s m args below meth c H locs 0 0 (MQ below (va_Qv (fun (_ : Unit) => True) (fun _ t9 => cB D Y ad (s1 μ k t) t9) (cA ad s.heap.size)) args s 0 0 (cA ad s.heap.size)) (F0 m 56 ls []) := by
  obtain ⟨⟨hx, hb, hml, hown, hts⟩, hr, hlk, hK⟩ := id X
  replace hf : (f0_copyFrom_64 j j2 v1 (upd v0 (90 + 9 * j + 7) (v1 (90 + 9 * j2 + 7)))) = some t := hf
  refine lv_aload_n hx hb dX0_copyFrom_56 rfl (lv_at hl 0 rfl) ?_
  refine lv_aload_n hx hb dX0_copyFrom_57 rfl (lv_at hl 1 rfl) ?_
  refine cr_gCar X hk2 ((s1_n hne).trans hM2) (j := j2) hj2 hH.1 (i := 7) (v := .int (v1 (90 + 9 * j2 + 7))) (by decide) gfX0_33 rfl dX0_copyFrom_58 ?_
  refine cv_pCar X hI hk hj hH 7 (by decide) gfX0_33 dX0_copyFrom_61 (fun H locs hH => ?_)
  exact w0_copyFrom_64 X hI hk hj hk2 hne hM2 hj2 hH (lv_sub hl [0, 1] rfl) hf
def f0_copyFrom_48 (j : Nat) (j2 : Nat) (v1 : Nat → Int32) (v0 : Nat → Int32) : Option ((Nat → Int32)) := f0_copyFrom_56 j j2 v1 (upd v0 (90 + 9 * j + 6) (v1 (90 + 9 * j2 + 6)))
set_option maxRecDepth 100000 in
set_option maxHeartbeats 4000000 in
theorem w0_copyFrom_48 {p : Program} {l : Launch} {e : Env} {s : State} {m : MethodId} {args : Array Value} {below : List Frame} {meth : Method} {c : Code} {D : va_G} {Y : cYt} {ad : Nat → Nat} {μ : Nat → Nat → Int32} {k : Nat} {v0 : Nat → Int32} {j : Nat} {k2 : Nat} {v1 : Nat → Int32} {j2 : Nat} (X : cX D Y p s m args meth c cX0_copyFrom 2 RX0 none) (hI : cInj ad) (hk : k < 10) (hj : j < 8) (hk2 : k2 < 10) (hne : k2 ≠ k) (hM2 : μ k2 = v1) (hj2 : j2 < 8)  {t : (Nat → Int32)}  {H : Heap} {locs : List Loc} (hH : cH D Y ad (s1 μ k v0) s H locs) {ls : Array Slot} (hl : lv_has ls 2 [(0, .ref (ad (15 * k + (j + 7)))), (1, .ref (ad (15 * k2 + (j2 + 7))))]) (hf : f0_copyFrom_48 j j2 v1 v0 = some t) : W p l e rm0_copyFrom s m args below meth c H locs 0 0 (MQ below (va_Qv (fun (_ : Unit) => True) (fun _ t9 => cB D Y ad (s1 μ k t) t9) (cA ad s.heap.size)) args s 0 0 (cA ad s.heap.size)) (F0 m 48 ls []) := by
  obtain ⟨⟨hx, hb, hml, hown, hts⟩, hr, hlk, hK⟩ := id X
  replace hf : (f0_copyFrom_56 j j2 v1 (upd v0 (90 + 9 * j + 6) (v1 (90 + 9 * j2 + 6)))) = some t := hf
  refine lv_aload_n hx hb dX0_copyFrom_48 rfl (lv_at hl 0 rfl) ?_
  refine lv_aload_n hx hb dX0_copyFrom_49 rfl (lv_at hl 1 rfl) ?_
  refine cr_gCar X hk2 ((s1_n hne).trans hM2) (j := j2) hj2 hH.1 (i := 6) (v := .int (v1 (90 + 9 * j2 + 6))) (by decide) gfX0_30 rfl dX0_copyFrom_50 ?_
  refine cv_pCar X hI hk hj hH 6 (by decide) gfX0_30 dX0_copyFrom_53 (fun H locs hH => ?_)
  exact w0_copyFrom_56 X hI hk hj hk2 hne hM2 hj2 hH (lv_sub hl [0, 1] rfl) hf
def f0_copyFrom_40 (j : Nat) (j2 : Nat) (v1 : Nat → Int32) (v0 : Nat → Int32) : Option ((Nat → Int32)) := f0_copyFrom_48 j j2 v1 (upd v0 (90 + 9 * j + 5) (v1 (90 + 9 * j2 + 5)))
set_option maxRecDepth 100000 in
set_option maxHeartbeats 4000000 in
theorem w0_copyFrom_40 {p : Program} {l : Launch} {e : Env} {s : State} {m : MethodId} {args : Array Value} {below : List Frame} {meth : Method} {c : Code} {D : va_G} {Y : cYt} {ad : Nat → Nat} {μ : Nat → Nat → Int32} {k : Nat} {v0 : Nat → Int32} {j : Nat} {k2 : Nat} {v1 : Nat → Int32} {j2 : Nat} (X : cX D Y p s m args meth c cX0_copyFrom 2 RX0 none) (hI : cInj ad) (hk : k < 10) (hj : j < 8) (hk2 : k2 < 10) (hne : k2 ≠ k) (hM2 : μ k2 = v1) (hj2 : j2 < 8)  {t : (Nat → Int32)}  {H : Heap} {locs : List Loc} (hH : cH D Y ad (s1 μ k v0) s H locs) {ls : Array Slot} (hl : lv_has ls 2 [(0, .ref (ad (15 * k + (j + 7)))), (1, .ref (ad (15 * k2 + (j2 + 7))))]) (hf : f0_copyFrom_40 j j2 v1 v0 = some t) : W p l e rm0_copyFrom s m args below meth c H locs 0 0 (MQ below (va_Qv (fun (_ : Unit) => True) (fun _ t9 => cB D Y ad (s1 μ k t) t9) (cA ad s.heap.size)) args s 0 0 (cA ad s.heap.size)) (F0 m 40 ls []) := by
  obtain ⟨⟨hx, hb, hml, hown, hts⟩, hr, hlk, hK⟩ := id X
  replace hf : (f0_copyFrom_48 j j2 v1 (upd v0 (90 + 9 * j + 5) (v1 (90 + 9 * j2 + 5)))) = some t := hf
  refine lv_aload_n hx hb dX0_copyFrom_40 rfl (lv_at hl 0 rfl) ?_
  refine lv_aload_n hx hb dX0_copyFrom_41 rfl (lv_at hl 1 rfl) ?_
  refine cr_gCar X hk2 ((s1_n hne).trans hM2) (j := j2) hj2 hH.1 (i := 5) (v := .int (v1 (90 + 9 * j2 + 5))) (by decide) gfX0_27 rfl dX0_copyFrom_42 ?_
  refine cv_pCar X hI hk hj hH 5 (by decide) gfX0_27 dX0_copyFrom_45 (fun H locs hH => ?_)
  exact w0_copyFrom_48 X hI hk hj hk2 hne hM2 hj2 hH (lv_sub hl [0, 1] rfl) hf
def f0_copyFrom_32 (j : Nat) (j2 : Nat) (v1 : Nat → Int32) (v0 : Nat → Int32) : Option ((Nat → Int32)) := f0_copyFrom_40 j j2 v1 (upd v0 (90 + 9 * j + 4) (v1 (90 + 9 * j2 + 4)))
set_option maxRecDepth 100000 in
set_option maxHeartbeats 4000000 in
theorem w0_copyFrom_32 {p : Program} {l : Launch} {e : Env} {s : State} {m : MethodId} {args : Array Value} {below : List Frame} {meth : Method} {c : Code} {D : va_G} {Y : cYt} {ad : Nat → Nat} {μ : Nat → Nat → Int32} {k : Nat} {v0 : Nat → Int32} {j : Nat} {k2 : Nat} {v1 : Nat → Int32} {j2 : Nat} (X : cX D Y p s m args meth c cX0_copyFrom 2 RX0 none) (hI : cInj ad) (hk : k < 10) (hj : j < 8) (hk2 : k2 < 10) (hne : k2 ≠ k) (hM2 : μ k2 = v1) (hj2 : j2 < 8)  {t : (Nat → Int32)}  {H : Heap} {locs : List Loc} (hH : cH D Y ad (s1 μ k v0) s H locs) {ls : Array Slot} (hl : lv_has ls 2 [(0, .ref (ad (15 * k + (j + 7)))), (1, .ref (ad (15 * k2 + (j2 + 7))))]) (hf : f0_copyFrom_32 j j2 v1 v0 = some t) : W p l e rm0_copyFrom s m args below meth c H locs 0 0 (MQ below (va_Qv (fun (_ : Unit) => True) (fun _ t9 => cB D Y ad (s1 μ k t) t9) (cA ad s.heap.size)) args s 0 0 (cA ad s.heap.size)) (F0 m 32 ls []) := by
  obtain ⟨⟨hx, hb, hml, hown, hts⟩, hr, hlk, hK⟩ := id X
  replace hf : (f0_copyFrom_40 j j2 v1 (upd v0 (90 + 9 * j + 4) (v1 (90 + 9 * j2 + 4)))) = some t := hf
  refine lv_aload_n hx hb dX0_copyFrom_32 rfl (lv_at hl 0 rfl) ?_
  refine lv_aload_n hx hb dX0_copyFrom_33 rfl (lv_at hl 1 rfl) ?_
  refine cr_gCar X hk2 ((s1_n hne).trans hM2) (j := j2) hj2 hH.1 (i := 4) (v := .int (v1 (90 + 9 * j2 + 4))) (by decide) gfX0_24 rfl dX0_copyFrom_34 ?_
  refine cv_pCar X hI hk hj hH 4 (by decide) gfX0_24 dX0_copyFrom_37 (fun H locs hH => ?_)
  exact w0_copyFrom_40 X hI hk hj hk2 hne hM2 hj2 hH (lv_sub hl [0, 1] rfl) hf
def f0_copyFrom_24 (j : Nat) (j2 : Nat) (v1 : Nat → Int32) (v0 : Nat → Int32) : Option ((Nat → Int32)) := f0_copyFrom_32 j j2 v1 (upd v0 (90 + 9 * j + 3) (v1 (90 + 9 * j2 + 3)))
set_option maxRecDepth 100000 in
set_option maxHeartbeats 4000000 in
theorem w0_copyFrom_24 {p : Program} {l : Launch} {e : Env} {s : State} {m : MethodId} {args : Array Value} {below : List Frame} {meth : Method} {c : Code} {D : va_G} {Y : cYt} {ad : Nat → Nat} {μ : Nat → Nat → Int32} {k : Nat} {v0 : Nat → Int32} {j : Nat} {k2 : Nat} {v1 : Nat → Int32} {j2 : Nat} (X : cX D Y p s m args meth c cX0_copyFrom 2 RX0 none) (hI : cInj ad) (hk : k < 10) (hj : j < 8) (hk2 : k2 < 10) (hne : k2 ≠ k) (hM2 : μ k2 = v1) (hj2 : j2 < 8)  {t : (Nat → Int32)}  {H : Heap} {locs : List Loc} (hH : cH D Y ad (s1 μ k v0) s H locs) {ls : Array Slot} (hl : lv_has ls 2 [(0, .ref (ad (15 * k + (j + 7)))), (1, .ref (ad (15 * k2 + (j2 + 7))))]) (hf : f0_copyFrom_24 j j2 v1 v0 = some t) : W p l e rm0_copyFrom s m args below meth c H locs 0 0 (MQ below (va_Qv (fun (_ : Unit) => True) (fun _ t9 => cB D Y ad (s1 μ k t) t9) (cA ad s.heap.size)) args s 0 0 (cA ad s.heap.size)) (F0 m 24 ls []) := by
  obtain ⟨⟨hx, hb, hml, hown, hts⟩, hr, hlk, hK⟩ := id X
  replace hf : (f0_copyFrom_32 j j2 v1 (upd v0 (90 + 9 * j + 3) (v1 (90 + 9 * j2 + 3)))) = some t := hf
  refine lv_aload_n hx hb dX0_copyFrom_24 rfl (lv_at hl 0 rfl) ?_
  refine lv_aload_n hx hb dX0_copyFrom_25 rfl (lv_at hl 1 rfl) ?_
  refine cr_gCar X hk2 ((s1_n hne).trans hM2) (j := j2) hj2 hH.1 (i := 3) (v := .int (v1 (90 + 9 * j2 + 3))) (by decide) gfX0_21 rfl dX0_copyFrom_26 ?_
  refine cv_pCar X hI hk hj hH 3 (by decide) gfX0_21 dX0_copyFrom_29 (fun H locs hH => ?_)
  exact w0_copyFrom_32 X hI hk hj hk2 hne hM2 hj2 hH (lv_sub hl [0, 1] rfl) hf
def f0_copyFrom_0 (j : Nat) (j2 : Nat) (v1 : Nat → Int32) (v0 : Nat → Int32) : Option ((Nat → Int32)) := f0_copyFrom_24 j j2 v1 (upd (upd (upd v0 (90 + 9 * j + 0) (v1 (90 + 9 * j2 + 0))) (90 + 9 * j + 1) (v1 (90 + 9 * j2 + 1))) (90 + 9 * j + 2) (v1 (90 + 9 * j2 + 2)))
set_option maxRecDepth 100000 in
set_option maxHeartbeats 4000000 in
theorem w0_copyFrom_0 {p : Program} {l : Launch} {e : Env} {s : State} {m : MethodId} {args : Array Value} {below : List Frame} {meth : Method} {c : Code} {D : va_G} {Y : cYt} {ad : Nat → Nat} {μ : Nat → Nat → Int32} {k : Nat} {v0 : Nat → Int32} {j : Nat} {k2 : Nat} {v1 : Nat → Int32} {j2 : Nat} (X : cX D Y p s m args meth c cX0_copyFrom 2 RX0 none) (hI : cInj ad) (hk : k < 10) (hj : j < 8) (hk2 : k2 < 10) (hne : k2 ≠ k) (hM2 : μ k2 = v1) (hj2 : j2 < 8)  {t : (Nat → Int32)}  {H : Heap} {locs : List Loc} (hH : cH D Y ad (s1 μ k v0) s H locs) {ls : Array Slot} (hl : lv_has ls 2 [(0, .ref (ad (15 * k + (j + 7)))), (1, .ref (ad (15 * k2 + (j2 + 7))))]) (hf : f0_copyFrom_0 j j2 v1 v0 = some t) : W p l e rm0_copyFrom s m args below meth c H locs 0 0 (MQ below (va_Qv (fun (_ : Unit) => True) (fun _ t9 => cB D Y ad (s1 μ k t) t9) (cA ad s.heap.size)) args s 0 0 (cA ad s.heap.size)) (F0 m 0 ls []) := by
  obtain ⟨⟨hx, hb, hml, hown, hts⟩, hr, hlk, hK⟩ := id X
  replace hf : (f0_copyFrom_24 j j2 v1 (upd (upd (upd v0 (90 + 9 * j + 0) (v1 (90 + 9 * j2 + 0))) (90 + 9 * j + 1) (v1 (90 + 9 * j2 + 1))) (90 + 9 * j + 2) (v1 (90 + 9 * j2 + 2)))) = some t := hf
  refine lv_aload_n hx hb dX0_copyFrom_0 rfl (lv_at hl 0 rfl) ?_
  refine lv_aload_n hx hb dX0_copyFrom_1 rfl (lv_at hl 1 rfl) ?_
  refine cr_gCar X hk2 ((s1_n hne).trans hM2) (j := j2) hj2 hH.1 (i := 0) (v := .int (v1 (90 + 9 * j2 + 0))) (by decide) gfX0_9 rfl dX0_copyFrom_2 ?_
  refine cv_pCar X hI hk hj hH 0 (by decide) gfX0_9 dX0_copyFrom_5 (fun H locs hH => ?_)
  refine lv_aload_n hx hb dX0_copyFrom_8 rfl (lv_at hl 0 rfl) ?_
  refine lv_aload_n hx hb dX0_copyFrom_9 rfl (lv_at hl 1 rfl) ?_
  refine cr_gCar X hk2 ((s1_n hne).trans hM2) (j := j2) hj2 hH.1 (i := 1) (v := .int (v1 (90 + 9 * j2 + 1))) (by decide) gfX0_15 rfl dX0_copyFrom_10 ?_
  refine cv_pCar X hI hk hj hH 1 (by decide) gfX0_15 dX0_copyFrom_13 (fun H locs hH => ?_)
  refine lv_aload_n hx hb dX0_copyFrom_16 rfl (lv_at hl 0 rfl) ?_
  refine lv_aload_n hx hb dX0_copyFrom_17 rfl (lv_at hl 1 rfl) ?_
  refine cr_gCar X hk2 ((s1_n hne).trans hM2) (j := j2) hj2 hH.1 (i := 2) (v := .int (v1 (90 + 9 * j2 + 2))) (by decide) gfX0_18 rfl dX0_copyFrom_18 ?_
  refine cv_pCar X hI hk hj hH 2 (by decide) gfX0_18 dX0_copyFrom_21 (fun H locs hH => ?_)
  exact w0_copyFrom_24 X hI hk hj hk2 hne hM2 hj2 hH (lv_sub hl [0, 1] rfl) hf
set_option maxRecDepth 100000 in
set_option maxHeartbeats 4000000 in
theorem c0_copyFrom (l : Launch) {D : va_G} {Y : cYt} {ad : Nat → Nat} {μ : Nat → Nat → Int32} {k : Nat} {j : Nat} {k2 : Nat} {j2 : Nat} (hk : k < 10) (hj : j < 8) (hk2 : k2 < 10) (hne : k2 ≠ k) (hj2 : j2 < 8) (hI : cInj ad) (sz : Nat) {t : (Nat → Int32)} (hf : f0_copyFrom_0 j j2 (μ k2) (μ k) = some t) : Met l yX0_copyFrom uX0_copyFrom rm0_copyFrom (va_Pc [.ref (ad (15 * k + (j + 7))), .ref (ad (15 * k2 + (j2 + 7)))] (fun U => U.heap.size = sz ∧ cB D Y ad μ U)) (va_Qv (fun (_ : Unit) => True) (fun _ t9 => cB D Y ad (s1 μ k t) t9) (cA ad sz)) 0 0 (cA ad sz) := by
  refine Met.ofW (cc := cX0_copyFrom) (maxL := 2) (ret := none) (by decide) rfl ?_
  intro p e s m args below meth c s₁ B hml hv
  obtain ⟨rfl, hsz, hP, hK⟩ := hv
  subst hsz
  have X : cX D Y p s m ([.ref (ad (15 * k + (j + 7))), .ref (ad (15 * k2 + (j2 + 7)))] : List Value).toArray meth c cX0_copyFrom 2 RX0 none := ⟨⟨B.exec, B.bytes, hml, findClass_of_methodNamed B.named, fun w h => atoms_spec (ws := uX0_copyFrom) B.pre w (List.mem_cons_of_mem _ h)⟩, B.returns, B.notSynchronized, hK⟩
  have hl := lv_entry ([.ref (ad (15 * k + (j + 7))), .ref (ad (15 * k2 + (j2 + 7)))]) (n := 2) (Nat.le_of_ble_eq_true rfl)
  rw [lg_entry_eq]
  generalize (lg_sl ([.ref (ad (15 * k + (j + 7))), .ref (ad (15 * k2 + (j2 + 7)))]) ++ List.replicate (2 - (lg_sl ([.ref (ad (15 * k + (j + 7))), .ref (ad (15 * k2 + (j2 + 7)))])).length) Slot.unset).toArray = ls at hl ⊢
  have hl : lv_has ls 2 [(0, .ref (ad (15 * k + (j + 7)))), (1, .ref (ad (15 * k2 + (j2 + 7))))] := hl
  exact w0_copyFrom_0 X hI hk hj hk2 hne rfl hj2 (cH_in k ⟨hP, va_S.rf⟩) (lv_sub hl [0, 1] rfl) hf
set_option maxRecDepth 100000 in
set_option maxHeartbeats 4000000 in
theorem km0_copyFrom {p : Program} {l : Launch} {e : Env} {R : Room} {s : State} {m : MethodId} {args : Array Value} {below : List Frame} {meth : Method} {c : Code} {cc : ByteArray} {nL : Nat} {own : String} {ret : Option FieldType} {D : va_G} {Y : cYt} {ad : Nat → Nat} {μ : Nat → Nat → Int32} {H : Heap} {locs : List Loc} {cells slots : Nat} {Q : State → Prop} {pc : Nat} {ls : Array Slot} {rest : List Value} (X : cX D Y p s m args meth c cc nL own ret) {k : Nat} {j : Nat} {k2 : Nat} {j2 : Nat} (hI : cInj ad) (hk : k < 10) (hj : j < 8) (hk2 : k2 < 10) (hne : k2 ≠ k) (hj2 : j2 < 8) (hH : cH D Y ad μ s H locs) (hls : ls.size = nL) {index : Nat} (hG : GoodIn gw (wsV own index RX0 yX0_copyFrom uX0_copyFrom)) (hR : rm0_copyFrom.frames + 1 ≤ R.frames ∧ 8 + (2 + 11) + rm0_copyFrom.locals ≤ R.locals) {t : (Nat → Int32)} (hf : f0_copyFrom_0 j j2 (μ k2) (μ k) = some t) (hrest : (rest.map fun v => v.category).sum ≤ 8) (hdg : decode cc pc = .ok (.invokevirtual index, 3)) (hc : cells ≤ R.cells ∧ slots ≤ R.slots) (kk : ∀ (H1 : Heap) (locs1 : List Loc), cH D Y ad (s1 μ k t) s H1 locs1 → W p l e R s m args below meth c H1 locs1 cells slots Q (F0 m (pc + 3) ls (rest))) : W p l e R s m args below meth c H locs cells slots Q (F0 m pc ls (.ref (ad (15 * k2 + (j2 + 7))) :: .ref (ad (15 * k + (j + 7))) :: rest)) := by
  have hA : ∀ q, cA ad H.size q → cA ad s.heap.size q := fun q h => h.elim Or.inl (fun h => Or.inr (Nat.le_trans hH.2.1 h))
  refine va_callv (va_runV (As := [.ref (ad (15 * k2 + (j2 + 7)))]) (rest := rest) X.1 (c0_copyFrom l hk hj hk2 hne hj2 hI H.size hf) (cwV 1 X.1.2.2.2.2 hG rfl rfl rfl (by decide +kernel) hR) ⟨cBs_bl, va_recv X.2.2.2 hH.1 (ci := 0) (q0 := 15 * k + (j + 7)) rfl (cw_ate (by omega) ((cw_st (r := j + 7) hk (by omega)).trans rfl)), fun U hU hW => ⟨rfl, by rw [hU], by rw [hU]; exact hH.1, va_K.moved hW.alike X.2.2.2⟩⟩ rfl rfl hls rfl (lv_room hrest) hdg hc) hH.2 (fun q _ h => hA q h) hA (fun u t9 H1 locs1 ht hvm hw hB hz1 hk1 hS => ?_)
  exact kk H1 locs1 ⟨by rw [← ht]; exact hB.1, hS⟩
set_option maxRecDepth 100000 in
set_option maxHeartbeats 4000000 in
theorem k0_copyFrom {p : Program} {l : Launch} {e : Env} {R : Room} {s : State} {m : MethodId} {args : Array Value} {below : List Frame} {meth : Method} {c : Code} {cc : ByteArray} {nL : Nat} {own : String} {ret : Option FieldType} {D : va_G} {Y : cYt} {ad : Nat → Nat} {μ : Nat → Nat → Int32} {H : Heap} {locs : List Loc} {cells slots : Nat} {Q : State → Prop} {pc : Nat} {ls : Array Slot} {rest : List Value} (X : cX D Y p s m args meth c cc nL own ret) {k : Nat} {j : Nat} {k2 : Nat} {j2 : Nat} {v0 : Nat → Int32} {v1 : Nat → Int32} (hI : cInj ad) (hk : k < 10) (hj : j < 8) (hk2 : k2 < 10) (hne : k2 ≠ k) (hM2 : μ k2 = v1) (hj2 : j2 < 8) (hH : cH D Y ad (s1 μ k v0) s H locs) (hls : ls.size = nL) {index : Nat} (hG : GoodIn gw (wsV own index RX0 yX0_copyFrom uX0_copyFrom)) (hR : rm0_copyFrom.frames + 1 ≤ R.frames ∧ 8 + (2 + 11) + rm0_copyFrom.locals ≤ R.locals) {t : (Nat → Int32)} (hf : f0_copyFrom_0 j j2 v1 v0 = some t) (hrest : (rest.map fun v => v.category).sum ≤ 8) (hdg : decode cc pc = .ok (.invokevirtual index, 3)) (hc : cells ≤ R.cells ∧ slots ≤ R.slots) (kk : ∀ (H1 : Heap) (locs1 : List Loc), cH D Y ad (s1 μ k t) s H1 locs1 → W p l e R s m args below meth c H1 locs1 cells slots Q (F0 m (pc + 3) ls (rest))) : W p l e R s m args below meth c H locs cells slots Q (F0 m pc ls (.ref (ad (15 * k2 + (j2 + 7))) :: .ref (ad (15 * k + (j + 7))) :: rest)) := by
  have hf2 : f0_copyFrom_0 j j2 (s1 μ k v0 k2) (s1 μ k v0 k) = some t := by rw [s1_k, s1_n hne, hM2]; exact hf
  exact km0_copyFrom (μ := s1 μ k v0) X hI hk hj hk2 hne hj2 hH hls hG hR hf2 hrest hdg hc (fun H1 locs1 h => kk H1 locs1 (by rw [s1_s1] at h; exact h))
/-! OreRailway$Car.makeNew()V -/
def rm0_makeNew : Room := { frames := 0, cells := 0, slots := 0, locals := 0 }
def f0_makeNew_45 (j : Nat) (v0 : Nat → Int32) : Option ((Nat → Int32)) := some (v0)
set_option maxRecDepth 100000 in
set_option maxHeartbeats 4000000 in
theorem w0_makeNew_45 {p : Program} {l : Launch} {e : Env} {s : State} {m : MethodId} {args : Array Value} {below : List Frame} {meth : Method} {c : Code} {D : va_G} {Y : cYt} {ad : Nat → Nat} {μ : Nat → Nat → Int32} {k : Nat} {v0 : Nat → Int32} {j : Nat} (X : cX D Y p s m args meth c cX0_makeNew 1 RX0 none) (hI : cInj ad) (hk : k < 10) (hj : j < 8)  {t : (Nat → Int32)}  {H : Heap} {locs : List Loc} (hH : cH D Y ad (s1 μ k v0) s H locs) {ls : Array Slot} (hl : lv_has ls 1 []) (hf : f0_makeNew_45 j v0 = some t) : W p l e rm0_makeNew s m args below meth c H locs 0 0 (MQ below (va_Qv (fun (_ : Unit) => True) (fun _ t9 => cB D Y ad (s1 μ k t) t9) (cA ad s.heap.size)) args s 0 0 (cA ad s.heap.size)) (F0 m 45 ls []) := by
  obtain ⟨⟨hx, hb, hml, hown, hts⟩, hr, hlk, hK⟩ := id X
  replace hf : (some (v0)) = some t := hf
  obtain rfl := so_i hf
  exact cr_vw X hH rfl dX0_makeNew_45
def f0_makeNew_40 (j : Nat) (v0 : Nat → Int32) : Option ((Nat → Int32)) := f0_makeNew_45 j (upd v0 (90 + 9 * j + 8) 0)
set_option maxRecDepth 100000 in
set_option maxHeartbeats 4000000 in
theorem w0_makeNew_40 {p : Program} {l : Launch} {e : Env} {s : State} {m : MethodId} {args : Array Value} {below : List Frame} {meth : Method} {c : Code} {D : va_G} {Y : cYt} {ad : Nat → Nat} {μ : Nat → Nat → Int32} {k : Nat} {v0 : Nat → Int32} {j : Nat} (X : cX D Y p s m args meth c cX0_makeNew 1 RX0 none) (hI : cInj ad) (hk : k < 10) (hj : j < 8)  {t : (Nat → Int32)}  {H : Heap} {locs : List Loc} (hH : cH D Y ad (s1 μ k v0) s H locs) {ls : Array Slot} (hl : lv_has ls 1 [(0, .ref (ad (15 * k + (j + 7))))]) (hf : f0_makeNew_40 j v0 = some t) : W p l e rm0_makeNew s m args below meth c H locs 0 0 (MQ below (va_Qv (fun (_ : Unit) => True) (fun _ t9 => cB D Y ad (s1 μ k t) t9) (cA ad s.heap.size)) args s 0 0 (cA ad s.heap.size)) (F0 m 40 ls []) := by
  obtain ⟨⟨hx, hb, hml, hown, hts⟩, hr, hlk, hK⟩ := id X
  replace hf : (f0_makeNew_45 j (upd v0 (90 + 9 * j + 8) 0)) = some t := hf
  refine lv_aload_n hx hb dX0_makeNew_40 rfl (lv_at hl 0 rfl) ?_
  refine lv_iconst (v := 0) hx hb dX0_makeNew_41 (by decide) ?_
  refine cv_pCar X hI hk hj hH 8 (by decide) gfX0_36 dX0_makeNew_42 (fun H locs hH => ?_)
  exact w0_makeNew_45 X hI hk hj hH (lv_sub hl [] rfl) hf
def f0_makeNew_35 (j : Nat) (v0 : Nat → Int32) : Option ((Nat → Int32)) := f0_makeNew_40 j (upd v0 (90 + 9 * j + 7) 0)
set_option maxRecDepth 100000 in
set_option maxHeartbeats 4000000 in
theorem w0_makeNew_35 {p : Program} {l : Launch} {e : Env} {s : State} {m : MethodId} {args : Array Value} {below : List Frame} {meth : Method} {c : Code} {D : va_G} {Y : cYt} {ad : Nat → Nat} {μ : Nat → Nat → Int32} {k : Nat} {v0 : Nat → Int32} {j : Nat} (X : cX D Y p s m args meth c cX0_makeNew 1 RX0 none) (hI : cInj ad) (hk : k < 10) (hj : j < 8)  {t : (Nat → Int32)}  {H : Heap} {locs : List Loc} (hH : cH D Y ad (s1 μ k v0) s H locs) {ls : Array Slot} (hl : lv_has ls 1 [(0, .ref (ad (15 * k + (j + 7))))]) (hf : f0_makeNew_35 j v0 = some t) : W p l e rm0_makeNew s m args below meth c H locs 0 0 (MQ below (va_Qv (fun (_ : Unit) => True) (fun _ t9 => cB D Y ad (s1 μ k t) t9) (cA ad s.heap.size)) args s 0 0 (cA ad s.heap.size)) (F0 m 35 ls []) := by
  obtain ⟨⟨hx, hb, hml, hown, hts⟩, hr, hlk, hK⟩ := id X
  replace hf : (f0_makeNew_40 j (upd v0 (90 + 9 * j + 7) 0)) = some t := hf
  refine lv_aload_n hx hb dX0_makeNew_35 rfl (lv_at hl 0 rfl) ?_
  refine lv_iconst (v := 0) hx hb dX0_makeNew_36 (by decide) ?_
  refine cv_pCar X hI hk hj hH 7 (by decide) gfX0_33 dX0_makeNew_37 (fun H locs hH => ?_)
  exact w0_makeNew_40 X hI hk hj hH (lv_sub hl [0] rfl) hf
def f0_makeNew_30 (j : Nat) (v0 : Nat → Int32) : Option ((Nat → Int32)) := f0_makeNew_35 j (upd v0 (90 + 9 * j + 6) 0)
set_option maxRecDepth 100000 in
set_option maxHeartbeats 4000000 in
theorem w0_makeNew_30 {p : Program} {l : Launch} {e : Env} {s : State} {m : MethodId} {args : Array Value} {below : List Frame} {meth : Method} {c : Code} {D : va_G} {Y : cYt} {ad : Nat → Nat} {μ : Nat → Nat → Int32} {k : Nat} {v0 : Nat → Int32} {j : Nat} (X : cX D Y p s m args meth c cX0_makeNew 1 RX0 none) (hI : cInj ad) (hk : k < 10) (hj : j < 8)  {t : (Nat → Int32)}  {H : Heap} {locs : List Loc} (hH : cH D Y ad (s1 μ k v0) s H locs) {ls : Array Slot} (hl : lv_has ls 1 [(0, .ref (ad (15 * k + (j + 7))))]) (hf : f0_makeNew_30 j v0 = some t) : W p l e rm0_makeNew s m args below meth c H locs 0 0 (MQ below (va_Qv (fun (_ : Unit) => True) (fun _ t9 => cB D Y ad (s1 μ k t) t9) (cA ad s.heap.size)) args s 0 0 (cA ad s.heap.size)) (F0 m 30 ls []) := by
  obtain ⟨⟨hx, hb, hml, hown, hts⟩, hr, hlk, hK⟩ := id X
  replace hf : (f0_makeNew_35 j (upd v0 (90 + 9 * j + 6) 0)) = some t := hf
  refine lv_aload_n hx hb dX0_makeNew_30 rfl (lv_at hl 0 rfl) ?_
  refine lv_iconst (v := 0) hx hb dX0_makeNew_31 (by decide) ?_
  refine cv_pCar X hI hk hj hH 6 (by decide) gfX0_30 dX0_makeNew_32 (fun H locs hH => ?_)
  exact w0_makeNew_35 X hI hk hj hH (lv_sub hl [0] rfl) hf
def f0_makeNew_25 (j : Nat) (v0 : Nat → Int32) : Option ((Nat → Int32)) := f0_makeNew_30 j (upd v0 (90 + 9 * j + 5) 0)
set_option maxRecDepth 100000 in
set_option maxHeartbeats 4000000 in
theorem w0_makeNew_25 {p : Program} {l : Launch} {e : Env} {s : State} {m : MethodId} {args : Array Value} {below : List Frame} {meth : Method} {c : Code} {D : va_G} {Y : cYt} {ad : Nat → Nat} {μ : Nat → Nat → Int32} {k : Nat} {v0 : Nat → Int32} {j : Nat} (X : cX D Y p s m args meth c cX0_makeNew 1 RX0 none) (hI : cInj ad) (hk : k < 10) (hj : j < 8)  {t : (Nat → Int32)}  {H : Heap} {locs : List Loc} (hH : cH D Y ad (s1 μ k v0) s H locs) {ls : Array Slot} (hl : lv_has ls 1 [(0, .ref (ad (15 * k + (j + 7))))]) (hf : f0_makeNew_25 j v0 = some t) : W p l e rm0_makeNew s m args below meth c H locs 0 0 (MQ below (va_Qv (fun (_ : Unit) => True) (fun _ t9 => cB D Y ad (s1 μ k t) t9) (cA ad s.heap.size)) args s 0 0 (cA ad s.heap.size)) (F0 m 25 ls []) := by
  obtain ⟨⟨hx, hb, hml, hown, hts⟩, hr, hlk, hK⟩ := id X
  replace hf : (f0_makeNew_30 j (upd v0 (90 + 9 * j + 5) 0)) = some t := hf
  refine lv_aload_n hx hb dX0_makeNew_25 rfl (lv_at hl 0 rfl) ?_
  refine lv_iconst (v := 0) hx hb dX0_makeNew_26 (by decide) ?_
  refine cv_pCar X hI hk hj hH 5 (by decide) gfX0_27 dX0_makeNew_27 (fun H locs hH => ?_)
  exact w0_makeNew_30 X hI hk hj hH (lv_sub hl [0] rfl) hf
def f0_makeNew_0 (j : Nat) (v0 : Nat → Int32) : Option ((Nat → Int32)) := f0_makeNew_25 j (upd (upd (upd (upd (upd v0 (90 + 9 * j + 0) 0) (90 + 9 * j + 1) 0) (90 + 9 * j + 2) 0) (90 + 9 * j + 3) 0) (90 + 9 * j + 4) 0)
set_option maxRecDepth 100000 in
set_option maxHeartbeats 4000000 in
theorem w0_makeNew_0 {p : Program} {l : Launch} {e : Env} {s : State} {m : MethodId} {args : Array Value} {below : List Frame} {meth : Method} {c : Code} {D : va_G} {Y : cYt} {ad : Nat → Nat} {μ : Nat → Nat → Int32} {k : Nat} {v0 : Nat → Int32} {j : Nat} (X : cX D Y p s m args meth c cX0_makeNew 1 RX0 none) (hI : cInj ad) (hk : k < 10) (hj : j < 8)  {t : (Nat → Int32)}  {H : Heap} {locs : List Loc} (hH : cH D Y ad (s1 μ k v0) s H locs) {ls : Array Slot} (hl : lv_has ls 1 [(0, .ref (ad (15 * k + (j + 7))))]) (hf : f0_makeNew_0 j v0 = some t) : W p l e rm0_makeNew s m args below meth c H locs 0 0 (MQ below (va_Qv (fun (_ : Unit) => True) (fun _ t9 => cB D Y ad (s1 μ k t) t9) (cA ad s.heap.size)) args s 0 0 (cA ad s.heap.size)) (F0 m 0 ls []) := by
  obtain ⟨⟨hx, hb, hml, hown, hts⟩, hr, hlk, hK⟩ := id X
  replace hf : (f0_makeNew_25 j (upd (upd (upd (upd (upd v0 (90 + 9 * j + 0) 0) (90 + 9 * j + 1) 0) (90 + 9 * j + 2) 0) (90 + 9 * j + 3) 0) (90 + 9 * j + 4) 0)) = some t := hf
  refine lv_aload_n hx hb dX0_makeNew_0 rfl (lv_at hl 0 rfl) ?_
  refine lv_iconst (v := 0) hx hb dX0_makeNew_1 (by decide) ?_
  refine cv_pCar X hI hk hj hH 0 (by decide) gfX0_9 dX0_makeNew_2 (fun H locs hH => ?_)
  refine lv_aload_n hx hb dX0_makeNew_5 rfl (lv_at hl 0 rfl) ?_
  refine lv_iconst (v := 0) hx hb dX0_makeNew_6 (by decide) ?_
  refine cv_pCar X hI hk hj hH 1 (by decide) gfX0_15 dX0_makeNew_7 (fun H locs hH => ?_)
  refine lv_aload_n hx hb dX0_makeNew_10 rfl (lv_at hl 0 rfl) ?_
  refine lv_iconst (v := 0) hx hb dX0_makeNew_11 (by decide) ?_
  refine cv_pCar X hI hk hj hH 2 (by decide) gfX0_18 dX0_makeNew_12 (fun H locs hH => ?_)
  refine lv_aload_n hx hb dX0_makeNew_15 rfl (lv_at hl 0 rfl) ?_
  refine lv_iconst (v := 0) hx hb dX0_makeNew_16 (by decide) ?_
  refine cv_pCar X hI hk hj hH 3 (by decide) gfX0_21 dX0_makeNew_17 (fun H locs hH => ?_)
  refine lv_aload_n hx hb dX0_makeNew_20 rfl (lv_at hl 0 rfl) ?_
  refine lv_iconst (v := 0) hx hb dX0_makeNew_21 (by decide) ?_
  refine cv_pCar X hI hk hj hH 4 (by decide) gfX0_24 dX0_makeNew_22 (fun H locs hH => ?_)
  exact w0_makeNew_25 X hI hk hj hH (lv_sub hl [0] rfl) hf
set_option maxRecDepth 100000 in
set_option maxHeartbeats 4000000 in
theorem c0_makeNew (l : Launch) {D : va_G} {Y : cYt} {ad : Nat → Nat} {μ : Nat → Nat → Int32} {k : Nat} {j : Nat} (hk : k < 10) (hj : j < 8) (hI : cInj ad) (sz : Nat) {t : (Nat → Int32)} (hf : f0_makeNew_0 j (μ k) = some t) : Met l yX0_makeNew uX0_makeNew rm0_makeNew (va_Pc [.ref (ad (15 * k + (j + 7)))] (fun U => U.heap.size = sz ∧ cB D Y ad μ U)) (va_Qv (fun (_ : Unit) => True) (fun _ t9 => cB D Y ad (s1 μ k t) t9) (cA ad sz)) 0 0 (cA ad sz) := by
  refine Met.ofW (cc := cX0_makeNew) (maxL := 1) (ret := none) (by decide) rfl ?_
  intro p e s m args below meth c s₁ B hml hv
  obtain ⟨rfl, hsz, hP, hK⟩ := hv
  subst hsz
  have X : cX D Y p s m ([.ref (ad (15 * k + (j + 7)))] : List Value).toArray meth c cX0_makeNew 1 RX0 none := ⟨⟨B.exec, B.bytes, hml, findClass_of_methodNamed B.named, fun w h => atoms_spec (ws := uX0_makeNew) B.pre w (List.mem_cons_of_mem _ h)⟩, B.returns, B.notSynchronized, hK⟩
  have hl := lv_entry ([.ref (ad (15 * k + (j + 7)))]) (n := 1) (Nat.le_of_ble_eq_true rfl)
  rw [lg_entry_eq]
  generalize (lg_sl ([.ref (ad (15 * k + (j + 7)))]) ++ List.replicate (1 - (lg_sl ([.ref (ad (15 * k + (j + 7)))])).length) Slot.unset).toArray = ls at hl ⊢
  have hl : lv_has ls 1 [(0, .ref (ad (15 * k + (j + 7))))] := hl
  exact w0_makeNew_0 X hI hk hj (cH_in k ⟨hP, va_S.rf⟩) (lv_sub hl [0] rfl) hf
set_option maxRecDepth 100000 in
set_option maxHeartbeats 4000000 in
theorem km0_makeNew {p : Program} {l : Launch} {e : Env} {R : Room} {s : State} {m : MethodId} {args : Array Value} {below : List Frame} {meth : Method} {c : Code} {cc : ByteArray} {nL : Nat} {own : String} {ret : Option FieldType} {D : va_G} {Y : cYt} {ad : Nat → Nat} {μ : Nat → Nat → Int32} {H : Heap} {locs : List Loc} {cells slots : Nat} {Q : State → Prop} {pc : Nat} {ls : Array Slot} {rest : List Value} (X : cX D Y p s m args meth c cc nL own ret) {k : Nat} {j : Nat} (hI : cInj ad) (hk : k < 10) (hj : j < 8) (hH : cH D Y ad μ s H locs) (hls : ls.size = nL) {index : Nat} (hG : GoodIn gw (wsV own index RX0 yX0_makeNew uX0_makeNew)) (hR : rm0_makeNew.frames + 1 ≤ R.frames ∧ 8 + (1 + 11) + rm0_makeNew.locals ≤ R.locals) {t : (Nat → Int32)} (hf : f0_makeNew_0 j (μ k) = some t) (hrest : (rest.map fun v => v.category).sum ≤ 8) (hdg : decode cc pc = .ok (.invokevirtual index, 3)) (hc : cells ≤ R.cells ∧ slots ≤ R.slots) (kk : ∀ (H1 : Heap) (locs1 : List Loc), cH D Y ad (s1 μ k t) s H1 locs1 → W p l e R s m args below meth c H1 locs1 cells slots Q (F0 m (pc + 3) ls (rest))) : W p l e R s m args below meth c H locs cells slots Q (F0 m pc ls (.ref (ad (15 * k + (j + 7))) :: rest)) := by
  have hA : ∀ q, cA ad H.size q → cA ad s.heap.size q := fun q h => h.elim Or.inl (fun h => Or.inr (Nat.le_trans hH.2.1 h))
  refine va_callv (va_runV (As := []) (rest := rest) X.1 (c0_makeNew l hk hj hI H.size hf) (cwV 0 X.1.2.2.2.2 hG rfl rfl rfl (by decide +kernel) hR) ⟨cBs_bl, va_recv X.2.2.2 hH.1 (ci := 0) (q0 := 15 * k + (j + 7)) rfl (cw_ate (by omega) ((cw_st (r := j + 7) hk (by omega)).trans rfl)), fun U hU hW => ⟨rfl, by rw [hU], by rw [hU]; exact hH.1, va_K.moved hW.alike X.2.2.2⟩⟩ rfl rfl hls rfl (lv_room hrest) hdg hc) hH.2 (fun q _ h => hA q h) hA (fun u t9 H1 locs1 ht hvm hw hB hz1 hk1 hS => ?_)
  exact kk H1 locs1 ⟨by rw [← ht]; exact hB.1, hS⟩
set_option maxRecDepth 100000 in
set_option maxHeartbeats 4000000 in
theorem k0_makeNew {p : Program} {l : Launch} {e : Env} {R : Room} {s : State} {m : MethodId} {args : Array Value} {below : List Frame} {meth : Method} {c : Code} {cc : ByteArray} {nL : Nat} {own : String} {ret : Option FieldType} {D : va_G} {Y : cYt} {ad : Nat → Nat} {μ : Nat → Nat → Int32} {H : Heap} {locs : List Loc} {cells slots : Nat} {Q : State → Prop} {pc : Nat} {ls : Array Slot} {rest : List Value} (X : cX D Y p s m args meth c cc nL own ret) {k : Nat} {j : Nat} {v0 : Nat → Int32} (hI : cInj ad) (hk : k < 10) (hj : j < 8) (hH : cH D Y ad (s1 μ k v0) s H locs) (hls : ls.size = nL) {index : Nat} (hG : GoodIn gw (wsV own index RX0 yX0_makeNew uX0_makeNew)) (hR : rm0_makeNew.frames + 1 ≤ R.frames ∧ 8 + (1 + 11) + rm0_makeNew.locals ≤ R.locals) {t : (Nat → Int32)} (hf : f0_makeNew_0 j v0 = some t) (hrest : (rest.map fun v => v.category).sum ≤ 8) (hdg : decode cc pc = .ok (.invokevirtual index, 3)) (hc : cells ≤ R.cells ∧ slots ≤ R.slots) (kk : ∀ (H1 : Heap) (locs1 : List Loc), cH D Y ad (s1 μ k t) s H1 locs1 → W p l e R s m args below meth c H1 locs1 cells slots Q (F0 m (pc + 3) ls (rest))) : W p l e R s m args below meth c H locs cells slots Q (F0 m pc ls (.ref (ad (15 * k + (j + 7))) :: rest)) := by
  have hf2 : f0_makeNew_0 j (s1 μ k v0 k) = some t := by rw [s1_k]; exact hf
  exact km0_makeNew (μ := s1 μ k v0) X hI hk hj hH hls hG hR hf2 hrest hdg hc (fun H1 locs1 h => kk H1 locs1 (by rw [s1_s1] at h; exact h))
/-! OreRailway$Car.force()I -/
def rm0_force : Room := { frames := 0, cells := 0, slots := 0, locals := 0 }
def f0_force_22 (j : Nat) (v0 : Nat → Int32) (y0 : Int32) : Option (Int32) := some y0
set_option maxRecDepth 100000 in
set_option maxHeartbeats 4000000 in
theorem w0_force_22 {p : Program} {l : Launch} {e : Env} {s : State} {m : MethodId} {args : Array Value} {below : List Frame} {meth : Method} {c : Code} {D : va_G} {Y : cYt} {ad : Nat → Nat} {μ : Nat → Nat → Int32} {k : Nat} {v0 : Nat → Int32} {j : Nat} (X : cX D Y p s m args meth c cX0_force 1 RX0 (some .int)) (hk : k < 10) (hj : j < 8) (hM : μ k = v0) (hP : va_P D vwCl (cwW Y ad μ) s.heap) {y0 : Int32} {t : Int32}  {ls : Array Slot} (hl : lv_has ls 1 []) (hf : f0_force_22 j v0 y0 = some t) : W p l e rm0_force s m args below meth c s.heap [] 0 0 (MQ below (QcRead t) args s 0 0 (fun _ => False)) (F0 m 22 ls [.int y0]) := by
  obtain ⟨⟨hx, hb, hml, hown, hts⟩, hr, hlk, hK⟩ := id X
  replace hf : (some y0) = some t := hf
  obtain rfl := so_i hf
  exact rd_i hx hb hr hlk dX0_force_22
def f0_force_0 (j : Nat) (v0 : Nat → Int32) : Option (Int32) := if 100 < (v0 (90 + 9 * j + 5)) then (f0_force_22 j v0 ((v0 (90 + 9 * j + 2)) / 2)) else (f0_force_22 j v0 (v0 (90 + 9 * j + 2)))
set_option maxRecDepth 100000 in
set_option maxHeartbeats 4000000 in
theorem w0_force_0 {p : Program} {l : Launch} {e : Env} {s : State} {m : MethodId} {args : Array Value} {below : List Frame} {meth : Method} {c : Code} {D : va_G} {Y : cYt} {ad : Nat → Nat} {μ : Nat → Nat → Int32} {k : Nat} {v0 : Nat → Int32} {j : Nat} (X : cX D Y p s m args meth c cX0_force 1 RX0 (some .int)) (hk : k < 10) (hj : j < 8) (hM : μ k = v0) (hP : va_P D vwCl (cwW Y ad μ) s.heap) {t : Int32}  {ls : Array Slot} (hl : lv_has ls 1 [(0, .ref (ad (15 * k + (j + 7))))]) (hf : f0_force_0 j v0  = some t) : W p l e rm0_force s m args below meth c s.heap [] 0 0 (MQ below (QcRead t) args s 0 0 (fun _ => False)) (F0 m 0 ls []) := by
  obtain ⟨⟨hx, hb, hml, hown, hts⟩, hr, hlk, hK⟩ := id X
  replace hf : (if 100 < (v0 (90 + 9 * j + 5)) then (f0_force_22 j v0 ((v0 (90 + 9 * j + 2)) / 2)) else (f0_force_22 j v0 (v0 (90 + 9 * j + 2)))) = some t := hf
  refine lv_aload_n hx hb dX0_force_0 rfl (lv_at hl 0 rfl) ?_
  refine cr_gCar X hk hM (j := j) hj hP (i := 5) (v := .int (v0 (90 + 9 * j + 5))) (by decide) gfX0_27 rfl dX0_force_1 ?_
  refine lv_bipush (v := 100) hx hb dX0_force_4 (by decide) ?_
  refine lv_icmp_gt (tgt := 16) hx hb dX0_force_6 (by decide) (fun c1 => ?_) (fun c1 => ?_)
  · have hf := it_t c1 hf
    refine lv_aload_n hx hb dX0_force_16 rfl (lv_at hl 0 rfl) ?_
    refine cr_gCar X hk hM (j := j) hj hP (i := 2) (v := .int (v0 (90 + 9 * j + 2))) (by decide) gfX0_18 rfl dX0_force_17 ?_
    refine lv_iconst (v := 2) hx hb dX0_force_20 (by decide) ?_
    refine lv_idiv hx hb dX0_force_21 (by decide) ?_
    exact w0_force_22 X hk hj hM hP  (lv_sub hl [] rfl) hf
  · have hf := it_f c1 hf
    refine lv_aload_n hx hb dX0_force_9 rfl (lv_at hl 0 rfl) ?_
    refine cr_gCar X hk hM (j := j) hj hP (i := 2) (v := .int (v0 (90 + 9 * j + 2))) (by decide) gfX0_18 rfl dX0_force_10 ?_
    refine lv_goto (tgt := 22) hx hb dX0_force_13 (by decide) ?_
    exact w0_force_22 X hk hj hM hP  (lv_sub hl [] rfl) hf
set_option maxRecDepth 100000 in
set_option maxHeartbeats 4000000 in
theorem c0_force (l : Launch) {D : va_G} {Y : cYt} {ad : Nat → Nat} {μ : Nat → Nat → Int32} {k : Nat} {j : Nat} (hk : k < 10) (hj : j < 8) {t : Int32} (hf : f0_force_0 j (μ k) = some t) : Met l yX0_force uX0_force rm0_force (va_Pc [.ref (ad (15 * k + (j + 7)))] (cB D Y ad μ)) (QcRead t) 0 0 (fun _ => False) := by
  refine Met.ofW (cc := cX0_force) (maxL := 1) (ret := (some .int)) (by decide) rfl ?_
  intro p e s m args below meth c s₁ B hml hv
  obtain ⟨rfl, hP, hK⟩ := hv
  have X : cX D Y p s m ([.ref (ad (15 * k + (j + 7)))] : List Value).toArray meth c cX0_force 1 RX0 (some .int) := ⟨⟨B.exec, B.bytes, hml, findClass_of_methodNamed B.named, fun w h => atoms_spec (ws := uX0_force) B.pre w (List.mem_cons_of_mem _ h)⟩, B.returns, B.notSynchronized, hK⟩
  have hl := lv_entry ([.ref (ad (15 * k + (j + 7)))]) (n := 1) (Nat.le_of_ble_eq_true rfl)
  rw [lg_entry_eq]
  generalize (lg_sl ([.ref (ad (15 * k + (j + 7)))]) ++ List.replicate (1 - (lg_sl ([.ref (ad (15 * k + (j + 7)))])).length) Slot.unset).toArray = ls at hl ⊢
  have hl : lv_has ls 1 [(0, .ref (ad (15 * k + (j + 7))))] := hl
  exact w0_force_0 X hk hj rfl hP (lv_sub hl [0] rfl) hf
set_option maxRecDepth 100000 in
set_option maxHeartbeats 4000000 in
theorem k0_force {p : Program} {l : Launch} {e : Env} {R : Room} {s : State} {m : MethodId} {args : Array Value} {below : List Frame} {meth : Method} {c : Code} {cc : ByteArray} {nL : Nat} {own : String} {ret : Option FieldType} {D : va_G} {Y : cYt} {ad : Nat → Nat} {μ : Nat → Nat → Int32} {H : Heap} {locs : List Loc} {cells slots : Nat} {Q : State → Prop} {pc : Nat} {ls : Array Slot} {rest : List Value} (X : cX D Y p s m args meth c cc nL own ret) {k : Nat} {j : Nat} {v0 : Nat → Int32} (hk : k < 10) (hj : j < 8) (hM : μ k = v0) (hP : va_P D vwCl (cwW Y ad μ) H) (hls : ls.size = nL) {index : Nat} (hG : GoodIn gw (wsV own index RX0 yX0_force uX0_force)) (hR : rm0_force.frames + 1 ≤ R.frames ∧ 8 + (1 + 11) + rm0_force.locals ≤ R.locals) {t : Int32} (hf : f0_force_0 j v0 = some t) (hrest : (rest.map fun v => v.category).sum ≤ 8) (hdg : decode cc pc = .ok (.invokevirtual index, 3)) (hc : cells ≤ R.cells ∧ slots ≤ R.slots) (kk : W p l e R s m args below meth c H locs cells slots Q (F0 m (pc + 3) ls (.int t :: rest))) : W p l e R s m args below meth c H locs cells slots Q (F0 m pc ls (.ref (ad (15 * k + (j + 7))) :: rest)) := by
  subst hM
  exact W.callR (W.runV (As := []) X.1 (c0_force l hk hj hf) (cwV 0 X.1.2.2.2.2 hG rfl rfl rfl (by decide +kernel) hR) ⟨cB_bl, va_recv X.2.2.2 hP (ci := 0) (q0 := 15 * k + (j + 7)) rfl (cw_ate (by omega) ((cw_st (r := j + 7) hk (by omega)).trans rfl)), fun U hU hW => ⟨rfl, by rw [hU]; exact hP, va_K.moved hW.alike X.2.2.2⟩⟩ rfl rfl hls rfl (lv_room hrest) hdg hc) kk
/-! OreRailway$Car.changeSpeed(I)V -/
def rm0_changeSpeed : Room := { frames := 1, cells := 0, slots := 0, locals := 21 }
def f0_changeSpeed_48 (j : Nat) (v0 : Nat → Int32) : Option ((Nat → Int32)) := some (v0)
set_option maxRecDepth 100000 in
set_option maxHeartbeats 4000000 in
theorem w0_changeSpeed_48 {p : Program} {l : Launch} {e : Env} {s : State} {m : MethodId} {args : Array Value} {below : List Frame} {meth : Method} {c : Code} {D : va_G} {Y : cYt} {ad : Nat → Nat} {μ : Nat → Nat → Int32} {k : Nat} {v0 : Nat → Int32} {j : Nat} (X : cX D Y p s m args meth c cX0_changeSpeed 3 RX0 none) (hI : cInj ad) (hk : k < 10) (hj : j < 8)  {t : (Nat → Int32)}  {H : Heap} {locs : List Loc} (hH : cH D Y ad (s1 μ k v0) s H locs) {ls : Array Slot} (hl : lv_has ls 3 []) (hf : f0_changeSpeed_48 j v0 = some t) : W p l e rm0_changeSpeed s m args below meth c H locs 0 0 (MQ below (va_Qv (fun (_ : Unit) => True) (fun _ t9 => cB D Y ad (s1 μ k t) t9) (cA ad s.heap.size)) args s 0 0 (cA ad s.heap.size)) (F0 m 48 ls []) := by
  obtain ⟨⟨hx, hb, hml, hown, hts⟩, hr, hlk, hK⟩ := id X
  replace hf : (some (v0)) = some t := hf
  obtain rfl := so_i hf
  exact cr_vw X hH rfl dX0_changeSpeed_48
def f0_changeSpeed_33 (j : Nat) (v0 : Nat → Int32) : Option ((Nat → Int32)) := f0_changeSpeed_48 j (upd v0 (90 + 9 * j + 8) (if (v0 (90 + 9 * j + 8)) < (v0 (90 + 9 * j + 3)) then (v0 (90 + 9 * j + 3)) else (v0 (90 + 9 * j + 8))))
set_option maxRecDepth 100000 in
set_option maxHeartbeats 4000000 in
theorem w0_changeSpeed_33 {p : Program} {l : Launch} {e : Env} {s : State} {m : MethodId} {args : Array Value} {below : List Frame} {meth : Method} {c : Code} {D : va_G} {Y : cYt} {ad : Nat → Nat} {μ : Nat → Nat → Int32} {k : Nat} {v0 : Nat → Int32} {j : Nat} (X : cX D Y p s m args meth c cX0_changeSpeed 3 RX0 none) (hI : cInj ad) (hk : k < 10) (hj : j < 8)  {t : (Nat → Int32)}  {H : Heap} {locs : List Loc} (hH : cH D Y ad (s1 μ k v0) s H locs) {ls : Array Slot} (hl : lv_has ls 3 [(0, .ref (ad (15 * k + (j + 7))))]) (hf : f0_changeSpeed_33 j v0 = some t) : W p l e rm0_changeSpeed s m args below meth c H locs 0 0 (MQ below (va_Qv (fun (_ : Unit) => True) (fun _ t9 => cB D Y ad (s1 μ k t) t9) (cA ad s.heap.size)) args s 0 0 (cA ad s.heap.size)) (F0 m 33 ls []) := by
  obtain ⟨⟨hx, hb, hml, hown, hts⟩, hr, hlk, hK⟩ := id X
  replace hf : (f0_changeSpeed_48 j (upd v0 (90 + 9 * j + 8) (if (v0 (90 + 9 * j + 8)) < (v0 (90 + 9 * j + 3)) then (v0 (90 + 9 * j + 3)) else (v0 (90 + 9 * j + 8))))) = some t := hf
  refine lv_aload_n hx hb dX0_changeSpeed_33 rfl (lv_at hl 0 rfl) ?_
  refine lv_aload_n hx hb dX0_changeSpeed_34 rfl (lv_at hl 0 rfl) ?_
  refine cr_gCar X hk s1_k (j := j) hj hH.1 (i := 8) (v := .int (v0 (90 + 9 * j + 8))) (by decide) gfX0_36 rfl dX0_changeSpeed_35 ?_
  refine lv_aload_n hx hb dX0_changeSpeed_38 rfl (lv_at hl 0 rfl) ?_
  refine cr_gCar X hk s1_k (j := j) hj hH.1 (i := 3) (v := .int (v0 (90 + 9 * j + 3))) (by decide) gfX0_21 rfl dX0_changeSpeed_39 ?_
  refine va_mmax hx hb (hml.trans hl.1.symm) hown (hts _ gmX0_49) (hts _ gl_static_Lib_Math_max_name) (hts _ gi_java_lang_Math) (hts _ gl_code_Lib_Math_max_name) (Nat.le_of_ble_eq_true rfl) (Nat.le_of_ble_eq_true rfl) (Nat.zero_le _) (Nat.zero_le _) dX0_changeSpeed_42 ?_
  refine cv_pCar X hI hk hj hH 8 (by decide) gfX0_36 dX0_changeSpeed_45 (fun H locs hH => ?_)
  exact w0_changeSpeed_48 X hI hk hj hH (lv_sub hl [] rfl) hf
def f0_changeSpeed_0 (j : Nat) (x1 : Int32) (v0 : Nat → Int32) : Option ((Nat → Int32)) := Option.bind (f0_force_0 j v0) (fun t1 => f0_changeSpeed_33 j (upd v0 (90 + 9 * j + 3) (if 0 < (if ((((v0 (90 + 9 * j + 3)) + x1) + ((v0 (90 + 9 * j + 1)) / 5)) - t1) < 40 then ((((v0 (90 + 9 * j + 3)) + x1) + ((v0 (90 + 9 * j + 1)) / 5)) - t1) else 40) then (if ((((v0 (90 + 9 * j + 3)) + x1) + ((v0 (90 + 9 * j + 1)) / 5)) - t1) < 40 then ((((v0 (90 + 9 * j + 3)) + x1) + ((v0 (90 + 9 * j + 1)) / 5)) - t1) else 40) else 0)))
set_option maxRecDepth 100000 in
set_option maxHeartbeats 4000000 in
theorem w0_changeSpeed_0 {p : Program} {l : Launch} {e : Env} {s : State} {m : MethodId} {args : Array Value} {below : List Frame} {meth : Method} {c : Code} {D : va_G} {Y : cYt} {ad : Nat → Nat} {μ : Nat → Nat → Int32} {k : Nat} {v0 : Nat → Int32} {j : Nat} (X : cX D Y p s m args meth c cX0_changeSpeed 3 RX0 none) (hI : cInj ad) (hk : k < 10) (hj : j < 8)  {x1 : Int32} {t : (Nat → Int32)}  {H : Heap} {locs : List Loc} (hH : cH D Y ad (s1 μ k v0) s H locs) {ls : Array Slot} (hl : lv_has ls 3 [(0, .ref (ad (15 * k + (j + 7)))), (1, .int x1)]) (hf : f0_changeSpeed_0 j x1 v0 = some t) : W p l e rm0_changeSpeed s m args below meth c H locs 0 0 (MQ below (va_Qv (fun (_ : Unit) => True) (fun _ t9 => cB D Y ad (s1 μ k t) t9) (cA ad s.heap.size)) args s 0 0 (cA ad s.heap.size)) (F0 m 0 ls []) := by
  obtain ⟨⟨hx, hb, hml, hown, hts⟩, hr, hlk, hK⟩ := id X
  replace hf : (Option.bind (f0_force_0 j v0) (fun t1 => f0_changeSpeed_33 j (upd v0 (90 + 9 * j + 3) (if 0 < (if ((((v0 (90 + 9 * j + 3)) + x1) + ((v0 (90 + 9 * j + 1)) / 5)) - t1) < 40 then ((((v0 (90 + 9 * j + 3)) + x1) + ((v0 (90 + 9 * j + 1)) / 5)) - t1) else 40) then (if ((((v0 (90 + 9 * j + 3)) + x1) + ((v0 (90 + 9 * j + 1)) / 5)) - t1) < 40 then ((((v0 (90 + 9 * j + 3)) + x1) + ((v0 (90 + 9 * j + 1)) / 5)) - t1) else 40) else 0)))) = some t := hf
  refine lv_aload_n hx hb dX0_changeSpeed_0 rfl (lv_at hl 0 rfl) ?_
  refine cr_gCar X hk s1_k (j := j) hj hH.1 (i := 3) (v := .int (v0 (90 + 9 * j + 3))) (by decide) gfX0_21 rfl dX0_changeSpeed_1 ?_
  refine lv_iload_n hx hb dX0_changeSpeed_4 rfl (lv_at hl 1 rfl) ?_
  refine lv_iadd hx hb dX0_changeSpeed_5 ?_
  refine lv_aload_n hx hb dX0_changeSpeed_6 rfl (lv_at hl 0 rfl) ?_
  refine cr_gCar X hk s1_k (j := j) hj hH.1 (i := 1) (v := .int (v0 (90 + 9 * j + 1))) (by decide) gfX0_15 rfl dX0_changeSpeed_7 ?_
  refine lv_iconst (v := 5) hx hb dX0_changeSpeed_10 (by decide) ?_
  refine lv_idiv hx hb dX0_changeSpeed_11 (by decide) ?_
  refine lv_iadd hx hb dX0_changeSpeed_12 ?_
  refine lv_aload_n hx hb dX0_changeSpeed_13 rfl (lv_at hl 0 rfl) ?_
  obtain ⟨t1, ht1, hf⟩ := bd_o hf
  refine k0_force X hk hj s1_k hH.1 hl.1 qX0_39 ⟨Nat.le_of_ble_eq_true rfl, Nat.le_of_ble_eq_true rfl⟩ ht1 (Nat.le_of_ble_eq_true rfl) dX0_changeSpeed_14 ⟨Nat.zero_le _, Nat.zero_le _⟩ ?_
  refine lv_isub hx hb dX0_changeSpeed_17 ?_
  refine lv_istore_n (lv' := [(2, .int ((((v0 (90 + 9 * j + 3)) + x1) + ((v0 (90 + 9 * j + 1)) / 5)) - t1)), (0, .ref (ad (15 * k + (j + 7)))), (1, .int x1)]) hx hb dX0_changeSpeed_18 rfl hl (by decide) rfl (fun ls hl => ?_)
  refine lv_aload_n hx hb dX0_changeSpeed_19 rfl (lv_at hl 1 rfl) ?_
  refine lv_iconst (v := 0) hx hb dX0_changeSpeed_20 (by decide) ?_
  refine lv_bipush (v := 40) hx hb dX0_changeSpeed_21 (by decide) ?_
  refine lv_iload_n hx hb dX0_changeSpeed_23 rfl (lv_at hl 0 rfl) ?_
  refine va_mmin hx hb (hml.trans hl.1.symm) hown (hts _ gmX0_43) (hts _ gl_static_Lib_Math_min_name) (hts _ gi_java_lang_Math) (hts _ gl_code_Lib_Math_min_name) (Nat.le_of_ble_eq_true rfl) (Nat.le_of_ble_eq_true rfl) (Nat.zero_le _) (Nat.zero_le _) dX0_changeSpeed_24 ?_
  refine va_mmax hx hb (hml.trans hl.1.symm) hown (hts _ gmX0_49) (hts _ gl_static_Lib_Math_max_name) (hts _ gi_java_lang_Math) (hts _ gl_code_Lib_Math_max_name) (Nat.le_of_ble_eq_true rfl) (Nat.le_of_ble_eq_true rfl) (Nat.zero_le _) (Nat.zero_le _) dX0_changeSpeed_27 ?_
  refine cv_pCar X hI hk hj hH 3 (by decide) gfX0_21 dX0_changeSpeed_30 (fun H locs hH => ?_)
  exact w0_changeSpeed_33 X hI hk hj hH (lv_sub hl [1] rfl) hf
set_option maxRecDepth 100000 in
set_option maxHeartbeats 4000000 in
theorem c0_changeSpeed (l : Launch) {D : va_G} {Y : cYt} {ad : Nat → Nat} {μ : Nat → Nat → Int32} {k : Nat} {j : Nat} (hk : k < 10) (hj : j < 8) (hI : cInj ad) (sz : Nat) (x1 : Int32) {t : (Nat → Int32)} (hf : f0_changeSpeed_0 j x1 (μ k) = some t) : Met l yX0_changeSpeed uX0_changeSpeed rm0_changeSpeed (va_Pc [.ref (ad (15 * k + (j + 7))), .int x1] (fun U => U.heap.size = sz ∧ cB D Y ad μ U)) (va_Qv (fun (_ : Unit) => True) (fun _ t9 => cB D Y ad (s1 μ k t) t9) (cA ad sz)) 0 0 (cA ad sz) := by
  refine Met.ofW (cc := cX0_changeSpeed) (maxL := 3) (ret := none) (by decide) rfl ?_
  intro p e s m args below meth c s₁ B hml hv
  obtain ⟨rfl, hsz, hP, hK⟩ := hv
  subst hsz
  have X : cX D Y p s m ([.ref (ad (15 * k + (j + 7))), .int x1] : List Value).toArray meth c cX0_changeSpeed 3 RX0 none := ⟨⟨B.exec, B.bytes, hml, findClass_of_methodNamed B.named, fun w h => atoms_spec (ws := uX0_changeSpeed) B.pre w (List.mem_cons_of_mem _ h)⟩, B.returns, B.notSynchronized, hK⟩
  have hl := lv_entry ([.ref (ad (15 * k + (j + 7))), .int x1]) (n := 3) (Nat.le_of_ble_eq_true rfl)
  rw [lg_entry_eq]
  generalize (lg_sl ([.ref (ad (15 * k + (j + 7))), .int x1]) ++ List.replicate (3 - (lg_sl ([.ref (ad (15 * k + (j + 7))), .int x1])).length) Slot.unset).toArray = ls at hl ⊢
  have hl : lv_has ls 3 [(0, .ref (ad (15 * k + (j + 7)))), (1, .int x1)] := hl
  exact w0_changeSpeed_0 X hI hk hj (cH_in k ⟨hP, va_S.rf⟩) (lv_sub hl [0, 1] rfl) hf
set_option maxRecDepth 100000 in
set_option maxHeartbeats 4000000 in
theorem km0_changeSpeed {p : Program} {l : Launch} {e : Env} {R : Room} {s : State} {m : MethodId} {args : Array Value} {below : List Frame} {meth : Method} {c : Code} {cc : ByteArray} {nL : Nat} {own : String} {ret : Option FieldType} {D : va_G} {Y : cYt} {ad : Nat → Nat} {μ : Nat → Nat → Int32} {H : Heap} {locs : List Loc} {cells slots : Nat} {Q : State → Prop} {pc : Nat} {ls : Array Slot} {rest : List Value} (X : cX D Y p s m args meth c cc nL own ret) {k : Nat} {j : Nat} (hI : cInj ad) (hk : k < 10) (hj : j < 8) (hH : cH D Y ad μ s H locs) (hls : ls.size = nL) {index : Nat} (hG : GoodIn gw (wsV own index RX0 yX0_changeSpeed uX0_changeSpeed)) (hR : rm0_changeSpeed.frames + 1 ≤ R.frames ∧ 8 + (3 + 11) + rm0_changeSpeed.locals ≤ R.locals) {x1 : Int32} {t : (Nat → Int32)} (hf : f0_changeSpeed_0 j x1 (μ k) = some t) (hrest : (rest.map fun v => v.category).sum ≤ 8) (hdg : decode cc pc = .ok (.invokevirtual index, 3)) (hc : cells ≤ R.cells ∧ slots ≤ R.slots) (kk : ∀ (H1 : Heap) (locs1 : List Loc), cH D Y ad (s1 μ k t) s H1 locs1 → W p l e R s m args below meth c H1 locs1 cells slots Q (F0 m (pc + 3) ls (rest))) : W p l e R s m args below meth c H locs cells slots Q (F0 m pc ls (.int x1 :: .ref (ad (15 * k + (j + 7))) :: rest)) := by
  have hA : ∀ q, cA ad H.size q → cA ad s.heap.size q := fun q h => h.elim Or.inl (fun h => Or.inr (Nat.le_trans hH.2.1 h))
  refine va_callv (va_runV (As := [.int x1]) (rest := rest) X.1 (c0_changeSpeed l hk hj hI H.size x1 hf) (cwV 1 X.1.2.2.2.2 hG rfl rfl rfl (by decide +kernel) hR) ⟨cBs_bl, va_recv X.2.2.2 hH.1 (ci := 0) (q0 := 15 * k + (j + 7)) rfl (cw_ate (by omega) ((cw_st (r := j + 7) hk (by omega)).trans rfl)), fun U hU hW => ⟨rfl, by rw [hU], by rw [hU]; exact hH.1, va_K.moved hW.alike X.2.2.2⟩⟩ rfl rfl hls rfl (lv_room hrest) hdg hc) hH.2 (fun q _ h => hA q h) hA (fun u t9 H1 locs1 ht hvm hw hB hz1 hk1 hS => ?_)
  exact kk H1 locs1 ⟨by rw [← ht]; exact hB.1, hS⟩
set_option maxRecDepth 100000 in
set_option maxHeartbeats 4000000 in
theorem k0_changeSpeed {p : Program} {l : Launch} {e : Env} {R : Room} {s : State} {m : MethodId} {args : Array Value} {below : List Frame} {meth : Method} {c : Code} {cc : ByteArray} {nL : Nat} {own : String} {ret : Option FieldType} {D : va_G} {Y : cYt} {ad : Nat → Nat} {μ : Nat → Nat → Int32} {H : Heap} {locs : List Loc} {cells slots : Nat} {Q : State → Prop} {pc : Nat} {ls : Array Slot} {rest : List Value} (X : cX D Y p s m args meth c cc nL own ret) {k : Nat} {j : Nat} {v0 : Nat → Int32} (hI : cInj ad) (hk : k < 10) (hj : j < 8) (hH : cH D Y ad (s1 μ k v0) s H locs) (hls : ls.size = nL) {index : Nat} (hG : GoodIn gw (wsV own index RX0 yX0_changeSpeed uX0_changeSpeed)) (hR : rm0_changeSpeed.frames + 1 ≤ R.frames ∧ 8 + (3 + 11) + rm0_changeSpeed.locals ≤ R.locals) {x1 : Int32} {t : (Nat → Int32)} (hf : f0_changeSpeed_0 j x1 v0 = some t) (hrest : (rest.map fun v => v.category).sum ≤ 8) (hdg : decode cc pc = .ok (.invokevirtual index, 3)) (hc : cells ≤ R.cells ∧ slots ≤ R.slots) (kk : ∀ (H1 : Heap) (locs1 : List Loc), cH D Y ad (s1 μ k t) s H1 locs1 → W p l e R s m args below meth c H1 locs1 cells slots Q (F0 m (pc + 3) ls (rest))) : W p l e R s m args below meth c H locs cells slots Q (F0 m pc ls (.int x1 :: .ref (ad (15 * k + (j + 7))) :: rest)) := by
  have hf2 : f0_changeSpeed_0 j x1 (s1 μ k v0 k) = some t := by rw [s1_k]; exact hf
  exact km0_changeSpeed (μ := s1 μ k v0) X hI hk hj hH hls hG hR hf2 hrest hdg hc (fun H1 locs1 h => kk H1 locs1 (by rw [s1_s1] at h; exact h))
/-! OreRailway$Car.coolDown()V -/
def rm0_coolDown : Room := { frames := 0, cells := 0, slots := 0, locals := 0 }
def f0_coolDown_19 (j : Nat) (y0 : Int32) (v0 : Nat → Int32) : Option ((Nat → Int32)) := some (upd v0 (90 + 9 * j + 5) y0)
set_option maxRecDepth 100000 in
set_option maxHeartbeats 4000000 in
theorem w0_coolDown_19 {p : Program} {l : Launch} {e : Env} {s : State} {m : MethodId} {args : Array Value} {below : List Frame} {meth : Method} {c : Code} {D : va_G} {Y : cYt} {ad : Nat → Nat} {μ : Nat → Nat → Int32} {k : Nat} {v0 : Nat → Int32} {j : Nat} (X : cX D Y p s m args meth c cX0_coolDown 1 RX0 none) (hI : cInj ad) (hk : k < 10) (hj : j < 8)  {y0 : Int32} {t : (Nat → Int32)}  {H : Heap} {locs : List Loc} (hH : cH D Y ad (s1 μ k v0) s H locs) {ls : Array Slot} (hl : lv_has ls 1 []) (hf : f0_coolDown_19 j y0 v0 = some t) : W p l e rm0_coolDown s m args below meth c H locs 0 0 (MQ below (va_Qv (fun (_ : Unit) => True) (fun _ t9 => cB D Y ad (s1 μ k t) t9) (cA ad s.heap.size)) args s 0 0 (cA ad s.heap.size)) (F0 m 19 ls [.int y0, .ref (ad (15 * k + (j + 7)))]) := by
  obtain ⟨⟨hx, hb, hml, hown, hts⟩, hr, hlk, hK⟩ := id X
  replace hf : (some (upd v0 (90 + 9 * j + 5) y0)) = some t := hf
  refine cv_pCar X hI hk hj hH 5 (by decide) gfX0_27 dX0_coolDown_19 (fun H locs hH => ?_)
  obtain rfl := so_i hf
  exact cr_vw X hH rfl dX0_coolDown_22
def f0_coolDown_0 (j : Nat) (v0 : Nat → Int32) : Option ((Nat → Int32)) := if (v0 (90 + 9 * j + 5)) ≤ 5 then (f0_coolDown_19 j 0 v0) else (f0_coolDown_19 j ((v0 (90 + 9 * j + 5)) - 5) v0)
set_option maxRecDepth 100000 in
set_option maxHeartbeats 4000000 in
theorem w0_coolDown_0 {p : Program} {l : Launch} {e : Env} {s : State} {m : MethodId} {args : Array Value} {below : List Frame} {meth : Method} {c : Code} {D : va_G} {Y : cYt} {ad : Nat → Nat} {μ : Nat → Nat → Int32} {k : Nat} {v0 : Nat → Int32} {j : Nat} (X : cX D Y p s m args meth c cX0_coolDown 1 RX0 none) (hI : cInj ad) (hk : k < 10) (hj : j < 8)  {t : (Nat → Int32)}  {H : Heap} {locs : List Loc} (hH : cH D Y ad (s1 μ k v0) s H locs) {ls : Array Slot} (hl : lv_has ls 1 [(0, .ref (ad (15 * k + (j + 7))))]) (hf : f0_coolDown_0 j v0 = some t) : W p l e rm0_coolDown s m args below meth c H locs 0 0 (MQ below (va_Qv (fun (_ : Unit) => True) (fun _ t9 => cB D Y ad (s1 μ k t) t9) (cA ad s.heap.size)) args s 0 0 (cA ad s.heap.size)) (F0 m 0 ls []) := by
  obtain ⟨⟨hx, hb, hml, hown, hts⟩, hr, hlk, hK⟩ := id X
  replace hf : (if (v0 (90 + 9 * j + 5)) ≤ 5 then (f0_coolDown_19 j 0 v0) else (f0_coolDown_19 j ((v0 (90 + 9 * j + 5)) - 5) v0)) = some t := hf
  refine lv_aload_n hx hb dX0_coolDown_0 rfl (lv_at hl 0 rfl) ?_
  refine lv_aload_n hx hb dX0_coolDown_1 rfl (lv_at hl 0 rfl) ?_
  refine cr_gCar X hk s1_k (j := j) hj hH.1 (i := 5) (v := .int (v0 (90 + 9 * j + 5))) (by decide) gfX0_27 rfl dX0_coolDown_2 ?_
  refine lv_iconst (v := 5) hx hb dX0_coolDown_5 (by decide) ?_
  refine lv_icmp_le (tgt := 18) hx hb dX0_coolDown_6 (by decide) (fun c1 => ?_) (fun c1 => ?_)
  · have hf := it_t c1 hf
    refine lv_iconst (v := 0) hx hb dX0_coolDown_18 (by decide) ?_
    exact w0_coolDown_19 X hI hk hj hH (lv_sub hl [] rfl) hf
  · have hf := it_f c1 hf
    refine lv_aload_n hx hb dX0_coolDown_9 rfl (lv_at hl 0 rfl) ?_
    refine cr_gCar X hk s1_k (j := j) hj hH.1 (i := 5) (v := .int (v0 (90 + 9 * j + 5))) (by decide) gfX0_27 rfl dX0_coolDown_10 ?_
    refine lv_iconst (v := 5) hx hb dX0_coolDown_13 (by decide) ?_
    refine lv_isub hx hb dX0_coolDown_14 ?_
    refine lv_goto (tgt := 19) hx hb dX0_coolDown_15 (by decide) ?_
    exact w0_coolDown_19 X hI hk hj hH (lv_sub hl [] rfl) hf
set_option maxRecDepth 100000 in
set_option maxHeartbeats 4000000 in
theorem c0_coolDown (l : Launch) {D : va_G} {Y : cYt} {ad : Nat → Nat} {μ : Nat → Nat → Int32} {k : Nat} {j : Nat} (hk : k < 10) (hj : j < 8) (hI : cInj ad) (sz : Nat) {t : (Nat → Int32)} (hf : f0_coolDown_0 j (μ k) = some t) : Met l yX0_coolDown uX0_coolDown rm0_coolDown (va_Pc [.ref (ad (15 * k + (j + 7)))] (fun U => U.heap.size = sz ∧ cB D Y ad μ U)) (va_Qv (fun (_ : Unit) => True) (fun _ t9 => cB D Y ad (s1 μ k t) t9) (cA ad sz)) 0 0 (cA ad sz) := by
  refine Met.ofW (cc := cX0_coolDown) (maxL := 1) (ret := none) (by decide) rfl ?_
  intro p e s m args below meth c s₁ B hml hv
  obtain ⟨rfl, hsz, hP, hK⟩ := hv
  subst hsz
  have X : cX D Y p s m ([.ref (ad (15 * k + (j + 7)))] : List Value).toArray meth c cX0_coolDown 1 RX0 none := ⟨⟨B.exec, B.bytes, hml, findClass_of_methodNamed B.named, fun w h => atoms_spec (ws := uX0_coolDown) B.pre w (List.mem_cons_of_mem _ h)⟩, B.returns, B.notSynchronized, hK⟩
  have hl := lv_entry ([.ref (ad (15 * k + (j + 7)))]) (n := 1) (Nat.le_of_ble_eq_true rfl)
  rw [lg_entry_eq]
  generalize (lg_sl ([.ref (ad (15 * k + (j + 7)))]) ++ List.replicate (1 - (lg_sl ([.ref (ad (15 * k + (j + 7)))])).length) Slot.unset).toArray = ls at hl ⊢
  have hl : lv_has ls 1 [(0, .ref (ad (15 * k + (j + 7))))] := hl
  exact w0_coolDown_0 X hI hk hj (cH_in k ⟨hP, va_S.rf⟩) (lv_sub hl [0] rfl) hf
set_option maxRecDepth 100000 in
set_option maxHeartbeats 4000000 in
theorem km0_coolDown {p : Program} {l : Launch} {e : Env} {R : Room} {s : State} {m : MethodId} {args : Array Value} {below : List Frame} {meth : Method} {c : Code} {cc : ByteArray} {nL : Nat} {own : String} {ret : Option FieldType} {D : va_G} {Y : cYt} {ad : Nat → Nat} {μ : Nat → Nat → Int32} {H : Heap} {locs : List Loc} {cells slots : Nat} {Q : State → Prop} {pc : Nat} {ls : Array Slot} {rest : List Value} (X : cX D Y p s m args meth c cc nL own ret) {k : Nat} {j : Nat} (hI : cInj ad) (hk : k < 10) (hj : j < 8) (hH : cH D Y ad μ s H locs) (hls : ls.size = nL) {index : Nat} (hG : GoodIn gw (wsV own index RX0 yX0_coolDown uX0_coolDown)) (hR : rm0_coolDown.frames + 1 ≤ R.frames ∧ 8 + (1 + 11) + rm0_coolDown.locals ≤ R.locals) {t : (Nat → Int32)} (hf : f0_coolDown_0 j (μ k) = some t) (hrest : (rest.map fun v => v.category).sum ≤ 8) (hdg : decode cc pc = .ok (.invokevirtual index, 3)) (hc : cells ≤ R.cells ∧ slots ≤ R.slots) (kk : ∀ (H1 : Heap) (locs1 : List Loc), cH D Y ad (s1 μ k t) s H1 locs1 → W p l e R s m args below meth c H1 locs1 cells slots Q (F0 m (pc + 3) ls (rest))) : W p l e R s m args below meth c H locs cells slots Q (F0 m pc ls (.ref (ad (15 * k + (j + 7))) :: rest)) := by
  have hA : ∀ q, cA ad H.size q → cA ad s.heap.size q := fun q h => h.elim Or.inl (fun h => Or.inr (Nat.le_trans hH.2.1 h))
  refine va_callv (va_runV (As := []) (rest := rest) X.1 (c0_coolDown l hk hj hI H.size hf) (cwV 0 X.1.2.2.2.2 hG rfl rfl rfl (by decide +kernel) hR) ⟨cBs_bl, va_recv X.2.2.2 hH.1 (ci := 0) (q0 := 15 * k + (j + 7)) rfl (cw_ate (by omega) ((cw_st (r := j + 7) hk (by omega)).trans rfl)), fun U hU hW => ⟨rfl, by rw [hU], by rw [hU]; exact hH.1, va_K.moved hW.alike X.2.2.2⟩⟩ rfl rfl hls rfl (lv_room hrest) hdg hc) hH.2 (fun q _ h => hA q h) hA (fun u t9 H1 locs1 ht hvm hw hB hz1 hk1 hS => ?_)
  exact kk H1 locs1 ⟨by rw [← ht]; exact hB.1, hS⟩
set_option maxRecDepth 100000 in
set_option maxHeartbeats 4000000 in
theorem k0_coolDown {p : Program} {l : Launch} {e : Env} {R : Room} {s : State} {m : MethodId} {args : Array Value} {below : List Frame} {meth : Method} {c : Code} {cc : ByteArray} {nL : Nat} {own : String} {ret : Option FieldType} {D : va_G} {Y : cYt} {ad : Nat → Nat} {μ : Nat → Nat → Int32} {H : Heap} {locs : List Loc} {cells slots : Nat} {Q : State → Prop} {pc : Nat} {ls : Array Slot} {rest : List Value} (X : cX D Y p s m args meth c cc nL own ret) {k : Nat} {j : Nat} {v0 : Nat → Int32} (hI : cInj ad) (hk : k < 10) (hj : j < 8) (hH : cH D Y ad (s1 μ k v0) s H locs) (hls : ls.size = nL) {index : Nat} (hG : GoodIn gw (wsV own index RX0 yX0_coolDown uX0_coolDown)) (hR : rm0_coolDown.frames + 1 ≤ R.frames ∧ 8 + (1 + 11) + rm0_coolDown.locals ≤ R.locals) {t : (Nat → Int32)} (hf : f0_coolDown_0 j v0 = some t) (hrest : (rest.map fun v => v.category).sum ≤ 8) (hdg : decode cc pc = .ok (.invokevirtual index, 3)) (hc : cells ≤ R.cells ∧ slots ≤ R.slots) (kk : ∀ (H1 : Heap) (locs1 : List Loc), cH D Y ad (s1 μ k t) s H1 locs1 → W p l e R s m args below meth c H1 locs1 cells slots Q (F0 m (pc + 3) ls (rest))) : W p l e R s m args below meth c H locs cells slots Q (F0 m pc ls (.ref (ad (15 * k + (j + 7))) :: rest)) := by
  have hf2 : f0_coolDown_0 j (s1 μ k v0 k) = some t := by rw [s1_k]; exact hf
  exact km0_coolDown (μ := s1 μ k v0) X hI hk hj hH hls hG hR hf2 hrest hdg hc (fun H1 locs1 h => kk H1 locs1 (by rw [s1_s1] at h; exact h))
/-! OreRailway$Car.changeHeat()V -/
def rm0_changeHeat : Room := { frames := 1, cells := 0, slots := 0, locals := 21 }
def f0_changeHeat_33 (j : Nat) (v0 : Nat → Int32) : Option ((Nat → Int32)) := some (v0)
set_option maxRecDepth 100000 in
set_option maxHeartbeats 4000000 in
theorem w0_changeHeat_33 {p : Program} {l : Launch} {e : Env} {s : State} {m : MethodId} {args : Array Value} {below : List Frame} {meth : Method} {c : Code} {D : va_G} {Y : cYt} {ad : Nat → Nat} {μ : Nat → Nat → Int32} {k : Nat} {v0 : Nat → Int32} {j : Nat} (X : cX D Y p s m args meth c cX0_changeHeat 1 RX0 none) (hI : cInj ad) (hk : k < 10) (hj : j < 8)  {t : (Nat → Int32)}  {H : Heap} {locs : List Loc} (hH : cH D Y ad (s1 μ k v0) s H locs) {ls : Array Slot} (hl : lv_has ls 1 []) (hf : f0_changeHeat_33 j v0 = some t) : W p l e rm0_changeHeat s m args below meth c H locs 0 0 (MQ below (va_Qv (fun (_ : Unit) => True) (fun _ t9 => cB D Y ad (s1 μ k t) t9) (cA ad s.heap.size)) args s 0 0 (cA ad s.heap.size)) (F0 m 33 ls []) := by
  obtain ⟨⟨hx, hb, hml, hown, hts⟩, hr, hlk, hK⟩ := id X
  replace hf : (some (v0)) = some t := hf
  obtain rfl := so_i hf
  exact cr_vw X hH rfl dX0_changeHeat_33
def f0_changeHeat_26 (j : Nat) (v0 : Nat → Int32) : Option ((Nat → Int32)) := f0_changeHeat_33 j v0
set_option maxRecDepth 100000 in
set_option maxHeartbeats 4000000 in
theorem w0_changeHeat_26 {p : Program} {l : Launch} {e : Env} {s : State} {m : MethodId} {args : Array Value} {below : List Frame} {meth : Method} {c : Code} {D : va_G} {Y : cYt} {ad : Nat → Nat} {μ : Nat → Nat → Int32} {k : Nat} {v0 : Nat → Int32} {j : Nat} (X : cX D Y p s m args meth c cX0_changeHeat 1 RX0 none) (hI : cInj ad) (hk : k < 10) (hj : j < 8)  {t : (Nat → Int32)}  {H : Heap} {locs : List Loc} (hH : cH D Y ad (s1 μ k v0) s H locs) {ls : Array Slot} (hl : lv_has ls 1 []) (hf : f0_changeHeat_26 j v0 = some t) : W p l e rm0_changeHeat s m args below meth c H locs 0 0 (MQ below (va_Qv (fun (_ : Unit) => True) (fun _ t9 => cB D Y ad (s1 μ k t) t9) (cA ad s.heap.size)) args s 0 0 (cA ad s.heap.size)) (F0 m 26 ls []) := by
  obtain ⟨⟨hx, hb, hml, hown, hts⟩, hr, hlk, hK⟩ := id X
  replace hf : (f0_changeHeat_33 j v0) = some t := hf
  refine lv_goto (tgt := 33) hx hb dX0_changeHeat_26 (by decide) ?_
  exact w0_changeHeat_33 X hI hk hj hH (lv_sub hl [] rfl) hf
def f0_changeHeat_0 (j : Nat) (v0 : Nat → Int32) : Option ((Nat → Int32)) := if (v0 (90 + 9 * j + 3)) ≤ 0 then (Option.bind (f0_coolDown_0 j v0) (fun t2 => f0_changeHeat_33 j t2)) else (f0_changeHeat_26 j (upd v0 (90 + 9 * j + 5) (if ((v0 (90 + 9 * j + 5)) + (v0 (90 + 9 * j + 2))) < 200 then ((v0 (90 + 9 * j + 5)) + (v0 (90 + 9 * j + 2))) else 200)))
set_option maxRecDepth 100000 in
set_option maxHeartbeats 4000000 in
theorem w0_changeHeat_0 {p : Program} {l : Launch} {e : Env} {s : State} {m : MethodId} {args : Array Value} {below : List Frame} {meth : Method} {c : Code} {D : va_G} {Y : cYt} {ad : Nat → Nat} {μ : Nat → Nat → Int32} {k : Nat} {v0 : Nat → Int32} {j : Nat} (X : cX D Y p s m args meth c cX0_changeHeat 1 RX0 none) (hI : cInj ad) (hk : k < 10) (hj : j < 8)  {t : (Nat → Int32)}  {H : Heap} {locs : List Loc} (hH : cH D Y ad (s1 μ k v0) s H locs) {ls : Array Slot} (hl : lv_has ls 1 [(0, .ref (ad (15 * k + (j + 7))))]) (hf : f0_changeHeat_0 j v0 = some t) : W p l e rm0_changeHeat s m args below meth c H locs 0 0 (MQ below (va_Qv (fun (_ : Unit) => True) (fun _ t9 => cB D Y ad (s1 μ k t) t9) (cA ad s.heap.size)) args s 0 0 (cA ad s.heap.size)) (F0 m 0 ls []) := by
  obtain ⟨⟨hx, hb, hml, hown, hts⟩, hr, hlk, hK⟩ := id X
  replace hf : (if (v0 (90 + 9 * j + 3)) ≤ 0 then (Option.bind (f0_coolDown_0 j v0) (fun t2 => f0_changeHeat_33 j t2)) else (f0_changeHeat_26 j (upd v0 (90 + 9 * j + 5) (if ((v0 (90 + 9 * j + 5)) + (v0 (90 + 9 * j + 2))) < 200 then ((v0 (90 + 9 * j + 5)) + (v0 (90 + 9 * j + 2))) else 200)))) = some t := hf
  refine lv_aload_n hx hb dX0_changeHeat_0 rfl (lv_at hl 0 rfl) ?_
  refine cr_gCar X hk s1_k (j := j) hj hH.1 (i := 3) (v := .int (v0 (90 + 9 * j + 3))) (by decide) gfX0_21 rfl dX0_changeHeat_1 ?_
  refine lv_if_le (tgt := 29) hx hb dX0_changeHeat_4 (by decide) (fun c1 => ?_) (fun c1 => ?_)
  · have hf := it_t c1 hf
    refine lv_aload_n hx hb dX0_changeHeat_29 rfl (lv_at hl 0 rfl) ?_
    obtain ⟨t2, ht2, hf⟩ := bd_o hf
    refine k0_coolDown X hI hk hj hH hl.1 qX0_52 ⟨Nat.le_of_ble_eq_true rfl, Nat.le_of_ble_eq_true rfl⟩ ht2 (Nat.le_of_ble_eq_true rfl) dX0_changeHeat_30 ⟨Nat.zero_le _, Nat.zero_le _⟩ (fun H locs hH => ?_)
    exact w0_changeHeat_33 X hI hk hj hH (lv_sub hl [] rfl) hf
  · have hf := it_f c1 hf
    refine lv_aload_n hx hb dX0_changeHeat_7 rfl (lv_at hl 0 rfl) ?_
    refine lv_sipush (v := 200) hx hb dX0_changeHeat_8 (by decide) ?_
    refine lv_aload_n hx hb dX0_changeHeat_11 rfl (lv_at hl 0 rfl) ?_
    refine cr_gCar X hk s1_k (j := j) hj hH.1 (i := 5) (v := .int (v0 (90 + 9 * j + 5))) (by decide) gfX0_27 rfl dX0_changeHeat_12 ?_
    refine lv_aload_n hx hb dX0_changeHeat_15 rfl (lv_at hl 0 rfl) ?_
    refine cr_gCar X hk s1_k (j := j) hj hH.1 (i := 2) (v := .int (v0 (90 + 9 * j + 2))) (by decide) gfX0_18 rfl dX0_changeHeat_16 ?_
    refine lv_iadd hx hb dX0_changeHeat_19 ?_
    refine va_mmin hx hb (hml.trans hl.1.symm) hown (hts _ gmX0_43) (hts _ gl_static_Lib_Math_min_name) (hts _ gi_java_lang_Math) (hts _ gl_code_Lib_Math_min_name) (Nat.le_of_ble_eq_true rfl) (Nat.le_of_ble_eq_true rfl) (Nat.zero_le _) (Nat.zero_le _) dX0_changeHeat_20 ?_
    refine cv_pCar X hI hk hj hH 5 (by decide) gfX0_27 dX0_changeHeat_23 (fun H locs hH => ?_)
    exact w0_changeHeat_26 X hI hk hj hH (lv_sub hl [] rfl) hf
set_option maxRecDepth 100000 in
set_option maxHeartbeats 4000000 in
theorem c0_changeHeat (l : Launch) {D : va_G} {Y : cYt} {ad : Nat → Nat} {μ : Nat → Nat → Int32} {k : Nat} {j : Nat} (hk : k < 10) (hj : j < 8) (hI : cInj ad) (sz : Nat) {t : (Nat → Int32)} (hf : f0_changeHeat_0 j (μ k) = some t) : Met l yX0_changeHeat uX0_changeHeat rm0_changeHeat (va_Pc [.ref (ad (15 * k + (j + 7)))] (fun U => U.heap.size = sz ∧ cB D Y ad μ U)) (va_Qv (fun (_ : Unit) => True) (fun _ t9 => cB D Y ad (s1 μ k t) t9) (cA ad sz)) 0 0 (cA ad sz) := by
  refine Met.ofW (cc := cX0_changeHeat) (maxL := 1) (ret := none) (by decide) rfl ?_
  intro p e s m args below meth c s₁ B hml hv
  obtain ⟨rfl, hsz, hP, hK⟩ := hv
  subst hsz
  have X : cX D Y p s m ([.ref (ad (15 * k + (j + 7)))] : List Value).toArray meth c cX0_changeHeat 1 RX0 none := ⟨⟨B.exec, B.bytes, hml, findClass_of_methodNamed B.named, fun w h => atoms_spec (ws := uX0_changeHeat) B.pre w (List.mem_cons_of_mem _ h)⟩, B.returns, B.notSynchronized, hK⟩
  have hl := lv_entry ([.ref (ad (15 * k + (j + 7)))]) (n := 1) (Nat.le_of_ble_eq_true rfl)
  rw [lg_entry_eq]
  generalize (lg_sl ([.ref (ad (15 * k + (j + 7)))]) ++ List.replicate (1 - (lg_sl ([.ref (ad (15 * k + (j + 7)))])).length) Slot.unset).toArray = ls at hl ⊢
  have hl : lv_has ls 1 [(0, .ref (ad (15 * k + (j + 7))))] := hl
  exact w0_changeHeat_0 X hI hk hj (cH_in k ⟨hP, va_S.rf⟩) (lv_sub hl [0] rfl) hf
set_option maxRecDepth 100000 in
set_option maxHeartbeats 4000000 in
theorem km0_changeHeat {p : Program} {l : Launch} {e : Env} {R : Room} {s : State} {m : MethodId} {args : Array Value} {below : List Frame} {meth : Method} {c : Code} {cc : ByteArray} {nL : Nat} {own : String} {ret : Option FieldType} {D : va_G} {Y : cYt} {ad : Nat → Nat} {μ : Nat → Nat → Int32} {H : Heap} {locs : List Loc} {cells slots : Nat} {Q : State → Prop} {pc : Nat} {ls : Array Slot} {rest : List Value} (X : cX D Y p s m args meth c cc nL own ret) {k : Nat} {j : Nat} (hI : cInj ad) (hk : k < 10) (hj : j < 8) (hH : cH D Y ad μ s H locs) (hls : ls.size = nL) {index : Nat} (hG : GoodIn gw (wsV own index RX0 yX0_changeHeat uX0_changeHeat)) (hR : rm0_changeHeat.frames + 1 ≤ R.frames ∧ 8 + (1 + 11) + rm0_changeHeat.locals ≤ R.locals) {t : (Nat → Int32)} (hf : f0_changeHeat_0 j (μ k) = some t) (hrest : (rest.map fun v => v.category).sum ≤ 8) (hdg : decode cc pc = .ok (.invokevirtual index, 3)) (hc : cells ≤ R.cells ∧ slots ≤ R.slots) (kk : ∀ (H1 : Heap) (locs1 : List Loc), cH D Y ad (s1 μ k t) s H1 locs1 → W p l e R s m args below meth c H1 locs1 cells slots Q (F0 m (pc + 3) ls (rest))) : W p l e R s m args below meth c H locs cells slots Q (F0 m pc ls (.ref (ad (15 * k + (j + 7))) :: rest)) := by
  have hA : ∀ q, cA ad H.size q → cA ad s.heap.size q := fun q h => h.elim Or.inl (fun h => Or.inr (Nat.le_trans hH.2.1 h))
  refine va_callv (va_runV (As := []) (rest := rest) X.1 (c0_changeHeat l hk hj hI H.size hf) (cwV 0 X.1.2.2.2.2 hG rfl rfl rfl (by decide +kernel) hR) ⟨cBs_bl, va_recv X.2.2.2 hH.1 (ci := 0) (q0 := 15 * k + (j + 7)) rfl (cw_ate (by omega) ((cw_st (r := j + 7) hk (by omega)).trans rfl)), fun U hU hW => ⟨rfl, by rw [hU], by rw [hU]; exact hH.1, va_K.moved hW.alike X.2.2.2⟩⟩ rfl rfl hls rfl (lv_room hrest) hdg hc) hH.2 (fun q _ h => hA q h) hA (fun u t9 H1 locs1 ht hvm hw hB hz1 hk1 hS => ?_)
  exact kk H1 locs1 ⟨by rw [← ht]; exact hB.1, hS⟩
set_option maxRecDepth 100000 in
set_option maxHeartbeats 4000000 in
theorem k0_changeHeat {p : Program} {l : Launch} {e : Env} {R : Room} {s : State} {m : MethodId} {args : Array Value} {below : List Frame} {meth : Method} {c : Code} {cc : ByteArray} {nL : Nat} {own : String} {ret : Option FieldType} {D : va_G} {Y : cYt} {ad : Nat → Nat} {μ : Nat → Nat → Int32} {H : Heap} {locs : List Loc} {cells slots : Nat} {Q : State → Prop} {pc : Nat} {ls : Array Slot} {rest : List Value} (X : cX D Y p s m args meth c cc nL own ret) {k : Nat} {j : Nat} {v0 : Nat → Int32} (hI : cInj ad) (hk : k < 10) (hj : j < 8) (hH : cH D Y ad (s1 μ k v0) s H locs) (hls : ls.size = nL) {index : Nat} (hG : GoodIn gw (wsV own index RX0 yX0_changeHeat uX0_changeHeat)) (hR : rm0_changeHeat.frames + 1 ≤ R.frames ∧ 8 + (1 + 11) + rm0_changeHeat.locals ≤ R.locals) {t : (Nat → Int32)} (hf : f0_changeHeat_0 j v0 = some t) (hrest : (rest.map fun v => v.category).sum ≤ 8) (hdg : decode cc pc = .ok (.invokevirtual index, 3)) (hc : cells ≤ R.cells ∧ slots ≤ R.slots) (kk : ∀ (H1 : Heap) (locs1 : List Loc), cH D Y ad (s1 μ k t) s H1 locs1 → W p l e R s m args below meth c H1 locs1 cells slots Q (F0 m (pc + 3) ls (rest))) : W p l e R s m args below meth c H locs cells slots Q (F0 m pc ls (.ref (ad (15 * k + (j + 7))) :: rest)) := by
  have hf2 : f0_changeHeat_0 j (s1 μ k v0 k) = some t := by rw [s1_k]; exact hf
  exact km0_changeHeat (μ := s1 μ k v0) X hI hk hj hH hls hG hR hf2 hrest hdg hc (fun H1 locs1 h => kk H1 locs1 (by rw [s1_s1] at h; exact h))
/-! OreRailway$Car.number(I)I -/
def rm0_number : Room := { frames := 1, cells := 0, slots := 0, locals := 20 }
def f0_number_0 (j : Nat) (v0 : Nat → Int32) (x1 : Int32) : Option (Int32) := if x1 = 0 then (some (v0 (90 + 9 * j + 0))) else (if x1 = 1 then (some (v0 (90 + 9 * j + 1))) else (if x1 = 2 then (some (v0 (90 + 9 * j + 2))) else (if x1 = 3 then (some (v0 (90 + 9 * j + 3))) else (if x1 = 4 then (some (v0 (90 + 9 * j + 4))) else (if x1 = 5 then (some (v0 (90 + 9 * j + 5))) else (if x1 = 6 then (Option.bind (f0_force_0 j v0) (fun t8 => some t8)) else (if x1 = 7 then (some (v0 (90 + 9 * j + 6))) else (if x1 = 8 then (some (v0 (90 + 9 * j + 7))) else (some (v0 (90 + 9 * j + 8)))))))))))
set_option maxRecDepth 100000 in
set_option maxHeartbeats 4000000 in
theorem w0_number_0 {p : Program} {l : Launch} {e : Env} {s : State} {m : MethodId} {args : Array Value} {below : List Frame} {meth : Method} {c : Code} {D : va_G} {Y : cYt} {ad : Nat → Nat} {μ : Nat → Nat → Int32} {k : Nat} {v0 : Nat → Int32} {j : Nat} (X : cX D Y p s m args meth c cX0_number 2 RX0 (some .int)) (hk : k < 10) (hj : j < 8) (hM : μ k = v0) (hP : va_P D vwCl (cwW Y ad μ) s.heap) {x1 : Int32} {t : Int32}  {ls : Array Slot} (hl : lv_has ls 2 [(0, .ref (ad (15 * k + (j + 7)))), (1, .int x1)]) (hf : f0_number_0 j v0 x1 = some t) : W p l e rm0_number s m args below meth c s.heap [] 0 0 (MQ below (QcRead t) args s 0 0 (fun _ => False)) (F0 m 0 ls []) := by
  obtain ⟨⟨hx, hb, hml, hown, hts⟩, hr, hlk, hK⟩ := id X
  replace hf : (if x1 = 0 then (some (v0 (90 + 9 * j + 0))) else (if x1 = 1 then (some (v0 (90 + 9 * j + 1))) else (if x1 = 2 then (some (v0 (90 + 9 * j + 2))) else (if x1 = 3 then (some (v0 (90 + 9 * j + 3))) else (if x1 = 4 then (some (v0 (90 + 9 * j + 4))) else (if x1 = 5 then (some (v0 (90 + 9 * j + 5))) else (if x1 = 6 then (Option.bind (f0_force_0 j v0) (fun t8 => some t8)) else (if x1 = 7 then (some (v0 (90 + 9 * j + 6))) else (if x1 = 8 then (some (v0 (90 + 9 * j + 7))) else (some (v0 (90 + 9 * j + 8)))))))))))) = some t := hf
  refine lv_iload_n hx hb dX0_number_0 rfl (lv_at hl 1 rfl) ?_
  by_cases c1 : x1 = 0
  · have hf := it_t c1 hf
    refine lv_tableIn (off := 51) (tgt := 52) hx hb dX0_number_1 (by rw [c1]; decide) (by rw [c1]; decide) (by rw [c1]; rfl) (by decide) ?_
    refine lv_aload_n hx hb dX0_number_52 rfl (lv_at hl 0 rfl) ?_
    refine cr_gCar X hk hM (j := j) hj hP (i := 0) (v := .int (v0 (90 + 9 * j + 0))) (by decide) gfX0_9 rfl dX0_number_53 ?_
    obtain rfl := so_i hf
    exact rd_i hx hb hr hlk dX0_number_56
  · have hf := it_f c1 hf
    by_cases c2 : x1 = 1
    · have hf := it_t c2 hf
      refine lv_tableIn (off := 56) (tgt := 57) hx hb dX0_number_1 (by rw [c2]; decide) (by rw [c2]; decide) (by rw [c2]; rfl) (by decide) ?_
      refine lv_aload_n hx hb dX0_number_57 rfl (lv_at hl 0 rfl) ?_
      refine cr_gCar X hk hM (j := j) hj hP (i := 1) (v := .int (v0 (90 + 9 * j + 1))) (by decide) gfX0_15 rfl dX0_number_58 ?_
      obtain rfl := so_i hf
      exact rd_i hx hb hr hlk dX0_number_61
    · have hf := it_f c2 hf
      by_cases c3 : x1 = 2
      · have hf := it_t c3 hf
        refine lv_tableIn (off := 61) (tgt := 62) hx hb dX0_number_1 (by rw [c3]; decide) (by rw [c3]; decide) (by rw [c3]; rfl) (by decide) ?_
        refine lv_aload_n hx hb dX0_number_62 rfl (lv_at hl 0 rfl) ?_
        refine cr_gCar X hk hM (j := j) hj hP (i := 2) (v := .int (v0 (90 + 9 * j + 2))) (by decide) gfX0_18 rfl dX0_number_63 ?_
        obtain rfl := so_i hf
        exact rd_i hx hb hr hlk dX0_number_66
      · have hf := it_f c3 hf
        by_cases c4 : x1 = 3
        · have hf := it_t c4 hf
          refine lv_tableIn (off := 66) (tgt := 67) hx hb dX0_number_1 (by rw [c4]; decide) (by rw [c4]; decide) (by rw [c4]; rfl) (by decide) ?_
          refine lv_aload_n hx hb dX0_number_67 rfl (lv_at hl 0 rfl) ?_
          refine cr_gCar X hk hM (j := j) hj hP (i := 3) (v := .int (v0 (90 + 9 * j + 3))) (by decide) gfX0_21 rfl dX0_number_68 ?_
          obtain rfl := so_i hf
          exact rd_i hx hb hr hlk dX0_number_71
        · have hf := it_f c4 hf
          by_cases c5 : x1 = 4
          · have hf := it_t c5 hf
            refine lv_tableIn (off := 71) (tgt := 72) hx hb dX0_number_1 (by rw [c5]; decide) (by rw [c5]; decide) (by rw [c5]; rfl) (by decide) ?_
            refine lv_aload_n hx hb dX0_number_72 rfl (lv_at hl 0 rfl) ?_
            refine cr_gCar X hk hM (j := j) hj hP (i := 4) (v := .int (v0 (90 + 9 * j + 4))) (by decide) gfX0_24 rfl dX0_number_73 ?_
            obtain rfl := so_i hf
            exact rd_i hx hb hr hlk dX0_number_76
          · have hf := it_f c5 hf
            by_cases c6 : x1 = 5
            · have hf := it_t c6 hf
              refine lv_tableIn (off := 76) (tgt := 77) hx hb dX0_number_1 (by rw [c6]; decide) (by rw [c6]; decide) (by rw [c6]; rfl) (by decide) ?_
              refine lv_aload_n hx hb dX0_number_77 rfl (lv_at hl 0 rfl) ?_
              refine cr_gCar X hk hM (j := j) hj hP (i := 5) (v := .int (v0 (90 + 9 * j + 5))) (by decide) gfX0_27 rfl dX0_number_78 ?_
              obtain rfl := so_i hf
              exact rd_i hx hb hr hlk dX0_number_81
            · have hf := it_f c6 hf
              by_cases c7 : x1 = 6
              · have hf := it_t c7 hf
                refine lv_tableIn (off := 81) (tgt := 82) hx hb dX0_number_1 (by rw [c7]; decide) (by rw [c7]; decide) (by rw [c7]; rfl) (by decide) ?_
                refine lv_aload_n hx hb dX0_number_82 rfl (lv_at hl 0 rfl) ?_
                obtain ⟨t8, ht8, hf⟩ := bd_o hf
                refine k0_force X hk hj hM hP hl.1 qX0_39 ⟨Nat.le_of_ble_eq_true rfl, Nat.le_of_ble_eq_true rfl⟩ ht8 (Nat.le_of_ble_eq_true rfl) dX0_number_83 ⟨Nat.zero_le _, Nat.zero_le _⟩ ?_
                obtain rfl := so_i hf
                exact rd_i hx hb hr hlk dX0_number_86
              · have hf := it_f c7 hf
                by_cases c9 : x1 = 7
                · have hf := it_t c9 hf
                  refine lv_tableIn (off := 86) (tgt := 87) hx hb dX0_number_1 (by rw [c9]; decide) (by rw [c9]; decide) (by rw [c9]; rfl) (by decide) ?_
                  refine lv_aload_n hx hb dX0_number_87 rfl (lv_at hl 0 rfl) ?_
                  refine cr_gCar X hk hM (j := j) hj hP (i := 6) (v := .int (v0 (90 + 9 * j + 6))) (by decide) gfX0_30 rfl dX0_number_88 ?_
                  obtain rfl := so_i hf
                  exact rd_i hx hb hr hlk dX0_number_91
                · have hf := it_f c9 hf
                  by_cases c10 : x1 = 8
                  · have hf := it_t c10 hf
                    refine lv_tableIn (off := 91) (tgt := 92) hx hb dX0_number_1 (by rw [c10]; decide) (by rw [c10]; decide) (by rw [c10]; rfl) (by decide) ?_
                    refine lv_aload_n hx hb dX0_number_92 rfl (lv_at hl 0 rfl) ?_
                    refine cr_gCar X hk hM (j := j) hj hP (i := 7) (v := .int (v0 (90 + 9 * j + 7))) (by decide) gfX0_33 rfl dX0_number_93 ?_
                    obtain rfl := so_i hf
                    exact rd_i hx hb hr hlk dX0_number_96
                  · have hf := it_f c10 hf
                    have nc1 : ¬ Int32.toInt x1 = 0 := ne_ti c1 (by decide)
                    have nc2 : ¬ Int32.toInt x1 = 1 := ne_ti c2 (by decide)
                    have nc3 : ¬ Int32.toInt x1 = 2 := ne_ti c3 (by decide)
                    have nc4 : ¬ Int32.toInt x1 = 3 := ne_ti c4 (by decide)
                    have nc5 : ¬ Int32.toInt x1 = 4 := ne_ti c5 (by decide)
                    have nc6 : ¬ Int32.toInt x1 = 5 := ne_ti c6 (by decide)
                    have nc7 : ¬ Int32.toInt x1 = 6 := ne_ti c7 (by decide)
                    have nc9 : ¬ Int32.toInt x1 = 7 := ne_ti c9 (by decide)
                    have nc10 : ¬ Int32.toInt x1 = 8 := ne_ti c10 (by decide)
                    refine lv_tableOut (tgt := 97) hx hb dX0_number_1 (by omega) (by decide) ?_
                    refine lv_aload_n hx hb dX0_number_97 rfl (lv_at hl 0 rfl) ?_
                    refine cr_gCar X hk hM (j := j) hj hP (i := 8) (v := .int (v0 (90 + 9 * j + 8))) (by decide) gfX0_36 rfl dX0_number_98 ?_
                    obtain rfl := so_i hf
                    exact rd_i hx hb hr hlk dX0_number_101
set_option maxRecDepth 100000 in
set_option maxHeartbeats 4000000 in
theorem c0_number (l : Launch) {D : va_G} {Y : cYt} {ad : Nat → Nat} {μ : Nat → Nat → Int32} {k : Nat} {j : Nat} (hk : k < 10) (hj : j < 8) (x1 : Int32) {t : Int32} (hf : f0_number_0 j (μ k) x1 = some t) : Met l yX0_number uX0_number rm0_number (va_Pc [.ref (ad (15 * k + (j + 7))), .int x1] (cB D Y ad μ)) (QcRead t) 0 0 (fun _ => False) := by
  refine Met.ofW (cc := cX0_number) (maxL := 2) (ret := (some .int)) (by decide) rfl ?_
  intro p e s m args below meth c s₁ B hml hv
  obtain ⟨rfl, hP, hK⟩ := hv
  have X : cX D Y p s m ([.ref (ad (15 * k + (j + 7))), .int x1] : List Value).toArray meth c cX0_number 2 RX0 (some .int) := ⟨⟨B.exec, B.bytes, hml, findClass_of_methodNamed B.named, fun w h => atoms_spec (ws := uX0_number) B.pre w (List.mem_cons_of_mem _ h)⟩, B.returns, B.notSynchronized, hK⟩
  have hl := lv_entry ([.ref (ad (15 * k + (j + 7))), .int x1]) (n := 2) (Nat.le_of_ble_eq_true rfl)
  rw [lg_entry_eq]
  generalize (lg_sl ([.ref (ad (15 * k + (j + 7))), .int x1]) ++ List.replicate (2 - (lg_sl ([.ref (ad (15 * k + (j + 7))), .int x1])).length) Slot.unset).toArray = ls at hl ⊢
  have hl : lv_has ls 2 [(0, .ref (ad (15 * k + (j + 7)))), (1, .int x1)] := hl
  exact w0_number_0 X hk hj rfl hP (lv_sub hl [0, 1] rfl) hf
set_option maxRecDepth 100000 in
set_option maxHeartbeats 4000000 in
theorem k0_number {p : Program} {l : Launch} {e : Env} {R : Room} {s : State} {m : MethodId} {args : Array Value} {below : List Frame} {meth : Method} {c : Code} {cc : ByteArray} {nL : Nat} {own : String} {ret : Option FieldType} {D : va_G} {Y : cYt} {ad : Nat → Nat} {μ : Nat → Nat → Int32} {H : Heap} {locs : List Loc} {cells slots : Nat} {Q : State → Prop} {pc : Nat} {ls : Array Slot} {rest : List Value} (X : cX D Y p s m args meth c cc nL own ret) {k : Nat} {j : Nat} {v0 : Nat → Int32} (hk : k < 10) (hj : j < 8) (hM : μ k = v0) (hP : va_P D vwCl (cwW Y ad μ) H) (hls : ls.size = nL) {index : Nat} (hG : GoodIn gw (wsV own index RX0 yX0_number uX0_number)) (hR : rm0_number.frames + 1 ≤ R.frames ∧ 8 + (2 + 11) + rm0_number.locals ≤ R.locals) {x1 : Int32} {t : Int32} (hf : f0_number_0 j v0 x1 = some t) (hrest : (rest.map fun v => v.category).sum ≤ 8) (hdg : decode cc pc = .ok (.invokevirtual index, 3)) (hc : cells ≤ R.cells ∧ slots ≤ R.slots) (kk : W p l e R s m args below meth c H locs cells slots Q (F0 m (pc + 3) ls (.int t :: rest))) : W p l e R s m args below meth c H locs cells slots Q (F0 m pc ls (.int x1 :: .ref (ad (15 * k + (j + 7))) :: rest)) := by
  subst hM
  exact W.callR (W.runV (As := [.int x1]) X.1 (c0_number l hk hj x1 hf) (cwV 1 X.1.2.2.2.2 hG rfl rfl rfl (by decide +kernel) hR) ⟨cB_bl, va_recv X.2.2.2 hP (ci := 0) (q0 := 15 * k + (j + 7)) rfl (cw_ate (by omega) ((cw_st (r := j + 7) hk (by omega)).trans rfl)), fun U hU hW => ⟨rfl, by rw [hU]; exact hP, va_K.moved hW.alike X.2.2.2⟩⟩ rfl rfl hls rfl (lv_room hrest) hdg hc) kk
