/-! the law: hangs -/
/-! OreRailwayLaw.hangs(LOreRailway;)Z -/
def rm6_hangs : Room := { frames := 9, cells := 960, slots := 5760, locals := 193 }
def f6_hangs_975 (y0 : Int32) (mu : Nat → Nat → Int32) : Option (Int32 × (Nat → Nat → Int32)) := gz y0 (some (y0, mu))
set_option maxRecDepth 100000 in
set_option maxHeartbeats 4000000 in
theorem w6_hangs_975 {p : Program} {l : Launch} {e : Env} {s : State} {m : MethodId} {args : Array Value} {below : List Frame} {meth : Method} {c : Code} {D : va_G} {Y : cYt} {ad : Nat → Nat} {mu : Nat → Nat → Int32} (X : cX D Y p s m args meth c cL_hangs 12 RL (some .boolean)) (hI : cInj ad) (hl0 : l.stackTraces = false) (hZ : lZ ad s.heap.size s)  {y0 : Int32} {t : Int32 × (Nat → Nat → Int32)} {H : Heap} {locs : List Loc} (hH : cH D Y ad mu s H locs) {cells slots : Nat} (hc : cells + 3 * (0) ≤ 960 ∧ slots + 18 * (0) ≤ 5760) {ls : Array Slot} (hl : lv_has ls 12 []) (hf : f6_hangs_975 y0 mu = some t) : W p l e rm6_hangs s m args below meth c H locs cells slots (MQ below (va_Qi (fun (r9 : Int32) (_ : Unit) => r9 = t.1) (fun _ t9 => cB D Y ad t.2 t9) (cA ad s.heap.size)) args s 960 5760 (cA ad s.heap.size)) (F0 m 975 ls [.int y0]) := by
  obtain ⟨⟨hx, hb, hml, hown, hts⟩, hr, hlk, hK⟩ := id X
  replace hf : (gz y0 (some (y0, mu))) = some t := hf
  obtain ⟨hz, hf⟩ := gz_o hf
  obtain rfl := so_i hf
  exact e6_z X hH rfl (nz_z hz) (by omega) (by omega) dL_hangs_975
def f6_hangs_974 (mu : Nat → Nat → Int32) : Option (Int32 × (Nat → Nat → Int32)) := f6_hangs_975 0 mu
set_option maxRecDepth 100000 in
set_option maxHeartbeats 4000000 in
theorem w6_hangs_974 {p : Program} {l : Launch} {e : Env} {s : State} {m : MethodId} {args : Array Value} {below : List Frame} {meth : Method} {c : Code} {D : va_G} {Y : cYt} {ad : Nat → Nat} {mu : Nat → Nat → Int32} (X : cX D Y p s m args meth c cL_hangs 12 RL (some .boolean)) (hI : cInj ad) (hl0 : l.stackTraces = false) (hZ : lZ ad s.heap.size s)  {t : Int32 × (Nat → Nat → Int32)} {H : Heap} {locs : List Loc} (hH : cH D Y ad mu s H locs) {cells slots : Nat} (hc : cells + 3 * (0) ≤ 960 ∧ slots + 18 * (0) ≤ 5760) {ls : Array Slot} (hl : lv_has ls 12 []) (hf : f6_hangs_974 mu = some t) : W p l e rm6_hangs s m args below meth c H locs cells slots (MQ below (va_Qi (fun (r9 : Int32) (_ : Unit) => r9 = t.1) (fun _ t9 => cB D Y ad t.2 t9) (cA ad s.heap.size)) args s 960 5760 (cA ad s.heap.size)) (F0 m 974 ls []) := by
  obtain ⟨⟨hx, hb, hml, hown, hts⟩, hr, hlk, hK⟩ := id X
  replace hf : (f6_hangs_975 0 mu) = some t := hf
  refine lv_iconst (v := 0) hx hb dL_hangs_974 (by decide) ?_
  exact w6_hangs_975 X hI hl0 hZ hH ⟨by omega, by omega⟩ (lv_sub hl [] rfl) hf
def f6_hangs_959 (y0 : Int32) (y1 : Int32) (mu : Nat → Nat → Int32) : Option (Int32 × (Nat → Nat → Int32)) := if y1 = y0 then (Option.bind (f6_count_0 mu 5) (fun t2 => if t2 < 0 then (f6_hangs_974 mu) else (f6_hangs_975 1 mu))) else (f6_hangs_974 mu)
set_option maxRecDepth 100000 in
set_option maxHeartbeats 4000000 in
theorem w6_hangs_959 {p : Program} {l : Launch} {e : Env} {s : State} {m : MethodId} {args : Array Value} {below : List Frame} {meth : Method} {c : Code} {D : va_G} {Y : cYt} {ad : Nat → Nat} {mu : Nat → Nat → Int32} (X : cX D Y p s m args meth c cL_hangs 12 RL (some .boolean)) (hI : cInj ad) (hl0 : l.stackTraces = false) (hZ : lZ ad s.heap.size s)  {y0 : Int32} {y1 : Int32} {t : Int32 × (Nat → Nat → Int32)} {H : Heap} {locs : List Loc} (hH : cH D Y ad mu s H locs) {cells slots : Nat} (hc : cells + 3 * (1) ≤ 960 ∧ slots + 18 * (1) ≤ 5760) {ls : Array Slot} (hl : lv_has ls 12 [(0, .ref (ad 150))]) (hf : f6_hangs_959 y0 y1 mu = some t) : W p l e rm6_hangs s m args below meth c H locs cells slots (MQ below (va_Qi (fun (r9 : Int32) (_ : Unit) => r9 = t.1) (fun _ t9 => cB D Y ad t.2 t9) (cA ad s.heap.size)) args s 960 5760 (cA ad s.heap.size)) (F0 m 959 ls [.int y0, .int y1]) := by
  obtain ⟨⟨hx, hb, hml, hown, hts⟩, hr, hlk, hK⟩ := id X
  replace hf : (if y1 = y0 then (Option.bind (f6_count_0 mu 5) (fun t2 => if t2 < 0 then (f6_hangs_974 mu) else (f6_hangs_975 1 mu))) else (f6_hangs_974 mu)) = some t := hf
  refine lv_icmp_ne (tgt := 974) hx hb dL_hangs_959 (by decide) (fun c1 => ?_) (fun c1 => ?_)
  · have hf := it_f c1 hf
    exact w6_hangs_974 X hI hl0 hZ hH ⟨by omega, by omega⟩ (lv_sub hl [] rfl) hf
  · have hf := it_t c1 hf
    refine lv_aload_n hx hb dL_hangs_962 rfl (lv_at hl 0 rfl) ?_
    refine lv_iconst (v := 5) hx hb dL_hangs_963 (by decide) ?_
    obtain ⟨t2, ht2, hf⟩ := bd_o hf
    refine kh (MC := 960) (MS := 5760) (As := [.ref (ad 150), .int 5]) (rest := []) ⟨rfl, rfl⟩ X hZ hH (h6_count l hI hl0 _ 5 ht2) (vx_cwSW 2 hts qL_91 rfl rfl rfl (by decide +kernel) ⟨Nat.le_of_ble_eq_true rfl, Nat.le_of_ble_eq_true rfl⟩) rfl hl.1 rfl (Nat.le_of_ble_eq_true rfl) dL_hangs_964 ⟨by omega, by omega⟩ (fun H locs hH => ?_)
    refine lv_if_lt (tgt := 974) hx hb dL_hangs_967 (by decide) (fun c3 => ?_) (fun c3 => ?_)
    · have hf := it_t c3 hf
      exact w6_hangs_974 X hI hl0 hZ hH ⟨by omega, by omega⟩ (lv_sub hl [] rfl) hf
    · have hf := it_f c3 hf
      refine lv_iconst (v := 1) hx hb dL_hangs_970 (by decide) ?_
      refine lv_goto (tgt := 975) hx hb dL_hangs_971 (by decide) ?_
      exact w6_hangs_975 X hI hl0 hZ hH ⟨by omega, by omega⟩ (lv_sub hl [] rfl) hf
def f6_hangs_883 (x3 : Int32) (x4 : Int32) (x5 : Int32) (y0 : Int32) (mu : Nat → Nat → Int32) : Option (Int32 × (Nat → Nat → Int32)) := Option.bind (f6_count_0 mu 13) (fun t1 => if y0 = 0 then (f6_hangs_974 mu) else (Option.bind (f6_count_0 mu 6) (fun t3 => if x3 = t3 then (Option.bind (f6_count_0 mu 4) (fun t5 => if x4 = t5 then (Option.bind (f6_count_0 mu 3) (fun t7 => Option.bind (f6_count_0 mu 4) (fun t8 => Option.bind (f6_count_0 mu 5) (fun t9 => if t7 = ((t8 + t9) + x3) then (Option.bind (f6_count_0 mu 7) (fun t11 => if (t1 - x5) ≤ 0 then (f6_hangs_959 0 t11 mu) else (f6_hangs_959 (t1 - x5) t11 mu))) else (f6_hangs_974 mu))))) else (f6_hangs_974 mu))) else (f6_hangs_974 mu))))
set_option maxRecDepth 100000 in
set_option maxHeartbeats 4000000 in
theorem w6_hangs_883 {p : Program} {l : Launch} {e : Env} {s : State} {m : MethodId} {args : Array Value} {below : List Frame} {meth : Method} {c : Code} {D : va_G} {Y : cYt} {ad : Nat → Nat} {mu : Nat → Nat → Int32} (X : cX D Y p s m args meth c cL_hangs 12 RL (some .boolean)) (hI : cInj ad) (hl0 : l.stackTraces = false) (hZ : lZ ad s.heap.size s)  {x3 : Int32} {x4 : Int32} {x5 : Int32} {y0 : Int32} {t : Int32 × (Nat → Nat → Int32)} {H : Heap} {locs : List Loc} (hH : cH D Y ad mu s H locs) {cells slots : Nat} (hc : cells + 3 * (8) ≤ 960 ∧ slots + 18 * (8) ≤ 5760) {ls : Array Slot} (hl : lv_has ls 12 [(0, .ref (ad 150)), (3, .int x3), (4, .int x4), (5, .int x5)]) (hf : f6_hangs_883 x3 x4 x5 y0 mu = some t) : W p l e rm6_hangs s m args below meth c H locs cells slots (MQ below (va_Qi (fun (r9 : Int32) (_ : Unit) => r9 = t.1) (fun _ t9 => cB D Y ad t.2 t9) (cA ad s.heap.size)) args s 960 5760 (cA ad s.heap.size)) (F0 m 883 ls [.int y0]) := by
  obtain ⟨⟨hx, hb, hml, hown, hts⟩, hr, hlk, hK⟩ := id X
  replace hf : (Option.bind (f6_count_0 mu 13) (fun t1 => if y0 = 0 then (f6_hangs_974 mu) else (Option.bind (f6_count_0 mu 6) (fun t3 => if x3 = t3 then (Option.bind (f6_count_0 mu 4) (fun t5 => if x4 = t5 then (Option.bind (f6_count_0 mu 3) (fun t7 => Option.bind (f6_count_0 mu 4) (fun t8 => Option.bind (f6_count_0 mu 5) (fun t9 => if t7 = ((t8 + t9) + x3) then (Option.bind (f6_count_0 mu 7) (fun t11 => if (t1 - x5) ≤ 0 then (f6_hangs_959 0 t11 mu) else (f6_hangs_959 (t1 - x5) t11 mu))) else (f6_hangs_974 mu))))) else (f6_hangs_974 mu))) else (f6_hangs_974 mu))))) = some t := hf
  refine lv_istore (lv' := [(6, .int y0), (0, .ref (ad 150)), (3, .int x3), (4, .int x4), (5, .int x5)]) hx hb dL_hangs_883 hl (by decide) rfl (fun ls hl => ?_)
  refine lv_aload_n hx hb dL_hangs_885 rfl (lv_at hl 1 rfl) ?_
  refine lv_bipush (v := 13) hx hb dL_hangs_886 (by decide) ?_
  obtain ⟨t1, ht1, hf⟩ := bd_o hf
  refine kh (MC := 960) (MS := 5760) (As := [.ref (ad 150), .int 13]) (rest := []) ⟨rfl, rfl⟩ X hZ hH (h6_count l hI hl0 _ 13 ht1) (vx_cwSW 2 hts qL_91 rfl rfl rfl (by decide +kernel) ⟨Nat.le_of_ble_eq_true rfl, Nat.le_of_ble_eq_true rfl⟩) rfl hl.1 rfl (Nat.le_of_ble_eq_true rfl) dL_hangs_888 ⟨by omega, by omega⟩ (fun H locs hH => ?_)
  refine lv_iload hx hb dL_hangs_891 (lv_at hl 4 rfl) ?_
  refine lv_isub hx hb dL_hangs_893 ?_
  refine lv_istore (lv' := [(9, .int (t1 - x5)), (6, .int y0), (0, .ref (ad 150)), (3, .int x3), (4, .int x4), (5, .int x5)]) hx hb dL_hangs_894 hl (by decide) rfl (fun ls hl => ?_)
  refine lv_iload hx hb dL_hangs_896 (lv_at hl 1 rfl) ?_
  refine lv_if_eq (tgt := 974) hx hb dL_hangs_898 (by decide) (fun c2 => ?_) (fun c2 => ?_)
  · have hf := it_t c2 hf
    exact w6_hangs_974 X hI hl0 hZ hH ⟨by omega, by omega⟩ (lv_sub hl [] rfl) hf
  · have hf := it_f c2 hf
    refine lv_iload_n hx hb dL_hangs_901 rfl (lv_at hl 3 rfl) ?_
    refine lv_aload_n hx hb dL_hangs_902 rfl (lv_at hl 2 rfl) ?_
    refine lv_bipush (v := 6) hx hb dL_hangs_903 (by decide) ?_
    obtain ⟨t3, ht3, hf⟩ := bd_o hf
    refine kh (MC := 960) (MS := 5760) (As := [.ref (ad 150), .int 6]) (rest := [.int x3]) ⟨rfl, rfl⟩ X hZ hH (h6_count l hI hl0 _ 6 ht3) (vx_cwSW 2 hts qL_91 rfl rfl rfl (by decide +kernel) ⟨Nat.le_of_ble_eq_true rfl, Nat.le_of_ble_eq_true rfl⟩) rfl hl.1 rfl (Nat.le_of_ble_eq_true rfl) dL_hangs_905 ⟨by omega, by omega⟩ (fun H locs hH => ?_)
    refine lv_icmp_ne (tgt := 974) hx hb dL_hangs_908 (by decide) (fun c4 => ?_) (fun c4 => ?_)
    · have hf := it_f c4 hf
      exact w6_hangs_974 X hI hl0 hZ hH ⟨by omega, by omega⟩ (lv_sub hl [] rfl) hf
    · have hf := it_t c4 hf
      refine lv_iload hx hb dL_hangs_911 (lv_at hl 4 rfl) ?_
      refine lv_aload_n hx hb dL_hangs_913 rfl (lv_at hl 2 rfl) ?_
      refine lv_iconst (v := 4) hx hb dL_hangs_914 (by decide) ?_
      obtain ⟨t5, ht5, hf⟩ := bd_o hf
      refine kh (MC := 960) (MS := 5760) (As := [.ref (ad 150), .int 4]) (rest := [.int x4]) ⟨rfl, rfl⟩ X hZ hH (h6_count l hI hl0 _ 4 ht5) (vx_cwSW 2 hts qL_91 rfl rfl rfl (by decide +kernel) ⟨Nat.le_of_ble_eq_true rfl, Nat.le_of_ble_eq_true rfl⟩) rfl hl.1 rfl (Nat.le_of_ble_eq_true rfl) dL_hangs_915 ⟨by omega, by omega⟩ (fun H locs hH => ?_)
      refine lv_icmp_ne (tgt := 974) hx hb dL_hangs_918 (by decide) (fun c6 => ?_) (fun c6 => ?_)
      · have hf := it_f c6 hf
        exact w6_hangs_974 X hI hl0 hZ hH ⟨by omega, by omega⟩ (lv_sub hl [] rfl) hf
      · have hf := it_t c6 hf
        refine lv_aload_n hx hb dL_hangs_921 rfl (lv_at hl 2 rfl) ?_
        refine lv_iconst (v := 3) hx hb dL_hangs_922 (by decide) ?_
        obtain ⟨t7, ht7, hf⟩ := bd_o hf
        refine kh (MC := 960) (MS := 5760) (As := [.ref (ad 150), .int 3]) (rest := []) ⟨rfl, rfl⟩ X hZ hH (h6_count l hI hl0 _ 3 ht7) (vx_cwSW 2 hts qL_91 rfl rfl rfl (by decide +kernel) ⟨Nat.le_of_ble_eq_true rfl, Nat.le_of_ble_eq_true rfl⟩) rfl hl.1 rfl (Nat.le_of_ble_eq_true rfl) dL_hangs_923 ⟨by omega, by omega⟩ (fun H locs hH => ?_)
        refine lv_aload_n hx hb dL_hangs_926 rfl (lv_at hl 2 rfl) ?_
        refine lv_iconst (v := 4) hx hb dL_hangs_927 (by decide) ?_
        obtain ⟨t8, ht8, hf⟩ := bd_o hf
        refine kh (MC := 960) (MS := 5760) (As := [.ref (ad 150), .int 4]) (rest := [.int t7]) ⟨rfl, rfl⟩ X hZ hH (h6_count l hI hl0 _ 4 ht8) (vx_cwSW 2 hts qL_91 rfl rfl rfl (by decide +kernel) ⟨Nat.le_of_ble_eq_true rfl, Nat.le_of_ble_eq_true rfl⟩) rfl hl.1 rfl (Nat.le_of_ble_eq_true rfl) dL_hangs_928 ⟨by omega, by omega⟩ (fun H locs hH => ?_)
        refine lv_aload_n hx hb dL_hangs_931 rfl (lv_at hl 2 rfl) ?_
        refine lv_iconst (v := 5) hx hb dL_hangs_932 (by decide) ?_
        obtain ⟨t9, ht9, hf⟩ := bd_o hf
        refine kh (MC := 960) (MS := 5760) (As := [.ref (ad 150), .int 5]) (rest := [.int t8, .int t7]) ⟨rfl, rfl⟩ X hZ hH (h6_count l hI hl0 _ 5 ht9) (vx_cwSW 2 hts qL_91 rfl rfl rfl (by decide +kernel) ⟨Nat.le_of_ble_eq_true rfl, Nat.le_of_ble_eq_true rfl⟩) rfl hl.1 rfl (Nat.le_of_ble_eq_true rfl) dL_hangs_933 ⟨by omega, by omega⟩ (fun H locs hH => ?_)
        refine lv_iadd hx hb dL_hangs_936 ?_
        refine lv_iload_n hx hb dL_hangs_937 rfl (lv_at hl 3 rfl) ?_
        refine lv_iadd hx hb dL_hangs_938 ?_
        refine lv_icmp_ne (tgt := 974) hx hb dL_hangs_939 (by decide) (fun c10 => ?_) (fun c10 => ?_)
        · have hf := it_f c10 hf
          exact w6_hangs_974 X hI hl0 hZ hH ⟨by omega, by omega⟩ (lv_sub hl [] rfl) hf
        · have hf := it_t c10 hf
          refine lv_aload_n hx hb dL_hangs_942 rfl (lv_at hl 2 rfl) ?_
          refine lv_bipush (v := 7) hx hb dL_hangs_943 (by decide) ?_
          obtain ⟨t11, ht11, hf⟩ := bd_o hf
          refine kh (MC := 960) (MS := 5760) (As := [.ref (ad 150), .int 7]) (rest := []) ⟨rfl, rfl⟩ X hZ hH (h6_count l hI hl0 _ 7 ht11) (vx_cwSW 2 hts qL_91 rfl rfl rfl (by decide +kernel) ⟨Nat.le_of_ble_eq_true rfl, Nat.le_of_ble_eq_true rfl⟩) rfl hl.1 rfl (Nat.le_of_ble_eq_true rfl) dL_hangs_945 ⟨by omega, by omega⟩ (fun H locs hH => ?_)
          refine lv_iload hx hb dL_hangs_948 (lv_at hl 0 rfl) ?_
          refine lv_if_le (tgt := 958) hx hb dL_hangs_950 (by decide) (fun c12 => ?_) (fun c12 => ?_)
          · have hf := it_t c12 hf
            refine lv_iconst (v := 0) hx hb dL_hangs_958 (by decide) ?_
            exact w6_hangs_959 X hI hl0 hZ hH ⟨by omega, by omega⟩ (lv_sub hl [2] rfl) hf
          · have hf := it_f c12 hf
            refine lv_iload hx hb dL_hangs_953 (lv_at hl 0 rfl) ?_
            refine lv_goto (tgt := 959) hx hb dL_hangs_955 (by decide) ?_
            exact w6_hangs_959 X hI hl0 hZ hH ⟨by omega, by omega⟩ (lv_sub hl [2] rfl) hf
def f6_hangs_882 (x3 : Int32) (x4 : Int32) (x5 : Int32) (mu : Nat → Nat → Int32) : Option (Int32 × (Nat → Nat → Int32)) := f6_hangs_883 x3 x4 x5 0 mu
set_option maxRecDepth 100000 in
set_option maxHeartbeats 4000000 in
theorem w6_hangs_882 {p : Program} {l : Launch} {e : Env} {s : State} {m : MethodId} {args : Array Value} {below : List Frame} {meth : Method} {c : Code} {D : va_G} {Y : cYt} {ad : Nat → Nat} {mu : Nat → Nat → Int32} (X : cX D Y p s m args meth c cL_hangs 12 RL (some .boolean)) (hI : cInj ad) (hl0 : l.stackTraces = false) (hZ : lZ ad s.heap.size s)  {x3 : Int32} {x4 : Int32} {x5 : Int32} {t : Int32 × (Nat → Nat → Int32)} {H : Heap} {locs : List Loc} (hH : cH D Y ad mu s H locs) {cells slots : Nat} (hc : cells + 3 * (8) ≤ 960 ∧ slots + 18 * (8) ≤ 5760) {ls : Array Slot} (hl : lv_has ls 12 [(0, .ref (ad 150)), (3, .int x3), (4, .int x4), (5, .int x5)]) (hf : f6_hangs_882 x3 x4 x5 mu = some t) : W p l e rm6_hangs s m args below meth c H locs cells slots (MQ below (va_Qi (fun (r9 : Int32) (_ : Unit) => r9 = t.1) (fun _ t9 => cB D Y ad t.2 t9) (cA ad s.heap.size)) args s 960 5760 (cA ad s.heap.size)) (F0 m 882 ls []) := by
  obtain ⟨⟨hx, hb, hml, hown, hts⟩, hr, hlk, hK⟩ := id X
  replace hf : (f6_hangs_883 x3 x4 x5 0 mu) = some t := hf
  refine lv_iconst (v := 0) hx hb dL_hangs_882 (by decide) ?_
  exact w6_hangs_883 X hI hl0 hZ hH ⟨by omega, by omega⟩ (lv_sub hl [0, 1, 2, 3] rfl) hf
def f6_hangs_816 (x3 : Int32) (x4 : Int32) (x5 : Int32) (x8 : Int32) (mu : Nat → Nat → Int32) : Option (Int32 × (Nat → Nat → Int32)) := Option.bind (f6_ifRun_0 5 4 mu) (fun t1 => if t1.1 < 0 then (f6_hangs_882 x3 x4 x5 t1.2) else (Option.bind (f6_ifRun_0 5 4 t1.2) (fun t3 => if (t3.1 &&& (x8 ^^^ ((-1)))) = 0 then (Option.bind (f6_ifRun_0 5 2 t3.2) (fun t5 => Option.bind (f6_cars_0 t5.2 3) (fun t6 => Option.bind (f6_cars_0 t5.2 3) (fun t7 => if (t5.1 &&& t6) = t7 then (Option.bind (f6_ifRun_0 9 0 t5.2) (fun t9 => Option.bind (f6_ifRun_0 9 1 t9.2) (fun t10 => if x3 < (t9.1 + t10.1) then (f6_hangs_882 x3 x4 x5 t10.2) else (f6_hangs_883 x3 x4 x5 1 t10.2)))) else (f6_hangs_882 x3 x4 x5 t5.2))))) else (f6_hangs_882 x3 x4 x5 t3.2))))
set_option maxRecDepth 100000 in
set_option maxHeartbeats 4000000 in
theorem w6_hangs_816 {p : Program} {l : Launch} {e : Env} {s : State} {m : MethodId} {args : Array Value} {below : List Frame} {meth : Method} {c : Code} {D : va_G} {Y : cYt} {ad : Nat → Nat} {mu : Nat → Nat → Int32} (X : cX D Y p s m args meth c cL_hangs 12 RL (some .boolean)) (hI : cInj ad) (hl0 : l.stackTraces = false) (hZ : lZ ad s.heap.size s)  {x3 : Int32} {x4 : Int32} {x5 : Int32} {x8 : Int32} {t : Int32 × (Nat → Nat → Int32)} {H : Heap} {locs : List Loc} (hH : cH D Y ad mu s H locs) {cells slots : Nat} (hc : cells + 3 * (15) ≤ 960 ∧ slots + 18 * (15) ≤ 5760) {ls : Array Slot} (hl : lv_has ls 12 [(0, .ref (ad 150)), (3, .int x3), (4, .int x4), (5, .int x5), (8, .int x8)]) (hf : f6_hangs_816 x3 x4 x5 x8 mu = some t) : W p l e rm6_hangs s m args below meth c H locs cells slots (MQ below (va_Qi (fun (r9 : Int32) (_ : Unit) => r9 = t.1) (fun _ t9 => cB D Y ad t.2 t9) (cA ad s.heap.size)) args s 960 5760 (cA ad s.heap.size)) (F0 m 816 ls []) := by
  obtain ⟨⟨hx, hb, hml, hown, hts⟩, hr, hlk, hK⟩ := id X
  replace hf : (Option.bind (f6_ifRun_0 5 4 mu) (fun t1 => if t1.1 < 0 then (f6_hangs_882 x3 x4 x5 t1.2) else (Option.bind (f6_ifRun_0 5 4 t1.2) (fun t3 => if (t3.1 &&& (x8 ^^^ ((-1)))) = 0 then (Option.bind (f6_ifRun_0 5 2 t3.2) (fun t5 => Option.bind (f6_cars_0 t5.2 3) (fun t6 => Option.bind (f6_cars_0 t5.2 3) (fun t7 => if (t5.1 &&& t6) = t7 then (Option.bind (f6_ifRun_0 9 0 t5.2) (fun t9 => Option.bind (f6_ifRun_0 9 1 t9.2) (fun t10 => if x3 < (t9.1 + t10.1) then (f6_hangs_882 x3 x4 x5 t10.2) else (f6_hangs_883 x3 x4 x5 1 t10.2)))) else (f6_hangs_882 x3 x4 x5 t5.2))))) else (f6_hangs_882 x3 x4 x5 t3.2))))) = some t := hf
  refine lv_aload_n hx hb dL_hangs_816 rfl (lv_at hl 0 rfl) ?_
  refine lv_iconst (v := 5) hx hb dL_hangs_817 (by decide) ?_
  refine lv_iconst (v := 4) hx hb dL_hangs_818 (by decide) ?_
  obtain ⟨t1, ht1, hf⟩ := bd_o hf
  refine kh (MC := 960) (MS := 5760) (As := [.ref (ad 150), .int 5, .int 4]) (rest := []) ⟨rfl, rfl⟩ X hZ hH (h6_ifRun l hI hl0 _ 5 4 ht1) (vx_cwSW 3 hts qL_147 rfl rfl rfl (by decide +kernel) ⟨Nat.le_of_ble_eq_true rfl, Nat.le_of_ble_eq_true rfl⟩) rfl hl.1 rfl (Nat.le_of_ble_eq_true rfl) dL_hangs_819 ⟨by omega, by omega⟩ (fun H locs hH => ?_)
  refine lv_if_lt (tgt := 882) hx hb dL_hangs_822 (by decide) (fun c2 => ?_) (fun c2 => ?_)
  · have hf := it_t c2 hf
    exact w6_hangs_882 X hI hl0 hZ hH ⟨by omega, by omega⟩ (lv_sub hl [0, 1, 2, 3] rfl) hf
  · have hf := it_f c2 hf
    refine lv_aload_n hx hb dL_hangs_825 rfl (lv_at hl 0 rfl) ?_
    refine lv_iconst (v := 5) hx hb dL_hangs_826 (by decide) ?_
    refine lv_iconst (v := 4) hx hb dL_hangs_827 (by decide) ?_
    obtain ⟨t3, ht3, hf⟩ := bd_o hf
    refine kh (MC := 960) (MS := 5760) (As := [.ref (ad 150), .int 5, .int 4]) (rest := []) ⟨rfl, rfl⟩ X hZ hH (h6_ifRun l hI hl0 _ 5 4 ht3) (vx_cwSW 3 hts qL_147 rfl rfl rfl (by decide +kernel) ⟨Nat.le_of_ble_eq_true rfl, Nat.le_of_ble_eq_true rfl⟩) rfl hl.1 rfl (Nat.le_of_ble_eq_true rfl) dL_hangs_828 ⟨by omega, by omega⟩ (fun H locs hH => ?_)
    refine lv_iload hx hb dL_hangs_831 (lv_at hl 4 rfl) ?_
    refine lv_iconst (v := (-1)) hx hb dL_hangs_833 (by decide) ?_
    refine lv_ixor hx hb dL_hangs_834 ?_
    refine lv_iand hx hb dL_hangs_835 ?_
    refine lv_if_ne (tgt := 882) hx hb dL_hangs_836 (by decide) (fun c4 => ?_) (fun c4 => ?_)
    · have hf := it_f c4 hf
      exact w6_hangs_882 X hI hl0 hZ hH ⟨by omega, by omega⟩ (lv_sub hl [0, 1, 2, 3] rfl) hf
    · have hf := it_t c4 hf
      refine lv_aload_n hx hb dL_hangs_839 rfl (lv_at hl 0 rfl) ?_
      refine lv_iconst (v := 5) hx hb dL_hangs_840 (by decide) ?_
      refine lv_iconst (v := 2) hx hb dL_hangs_841 (by decide) ?_
      obtain ⟨t5, ht5, hf⟩ := bd_o hf
      refine kh (MC := 960) (MS := 5760) (As := [.ref (ad 150), .int 5, .int 2]) (rest := []) ⟨rfl, rfl⟩ X hZ hH (h6_ifRun l hI hl0 _ 5 2 ht5) (vx_cwSW 3 hts qL_147 rfl rfl rfl (by decide +kernel) ⟨Nat.le_of_ble_eq_true rfl, Nat.le_of_ble_eq_true rfl⟩) rfl hl.1 rfl (Nat.le_of_ble_eq_true rfl) dL_hangs_842 ⟨by omega, by omega⟩ (fun H locs hH => ?_)
      refine lv_aload_n hx hb dL_hangs_845 rfl (lv_at hl 0 rfl) ?_
      refine lv_iconst (v := 3) hx hb dL_hangs_846 (by decide) ?_
      obtain ⟨t6, ht6, hf⟩ := bd_o hf
      refine kh (MC := 960) (MS := 5760) (As := [.ref (ad 150), .int 3]) (rest := [.int t5.1]) ⟨rfl, rfl⟩ X hZ hH (h6_cars l hI hl0 _ 3 ht6) (vx_cwSW 2 hts qL_132 rfl rfl rfl (by decide +kernel) ⟨Nat.le_of_ble_eq_true rfl, Nat.le_of_ble_eq_true rfl⟩) rfl hl.1 rfl (Nat.le_of_ble_eq_true rfl) dL_hangs_847 ⟨by omega, by omega⟩ (fun H locs hH => ?_)
      refine lv_iand hx hb dL_hangs_850 ?_
      refine lv_aload_n hx hb dL_hangs_851 rfl (lv_at hl 0 rfl) ?_
      refine lv_iconst (v := 3) hx hb dL_hangs_852 (by decide) ?_
      obtain ⟨t7, ht7, hf⟩ := bd_o hf
      refine kh (MC := 960) (MS := 5760) (As := [.ref (ad 150), .int 3]) (rest := [.int (t5.1 &&& t6)]) ⟨rfl, rfl⟩ X hZ hH (h6_cars l hI hl0 _ 3 ht7) (vx_cwSW 2 hts qL_132 rfl rfl rfl (by decide +kernel) ⟨Nat.le_of_ble_eq_true rfl, Nat.le_of_ble_eq_true rfl⟩) rfl hl.1 rfl (Nat.le_of_ble_eq_true rfl) dL_hangs_853 ⟨by omega, by omega⟩ (fun H locs hH => ?_)
      refine lv_icmp_ne (tgt := 882) hx hb dL_hangs_856 (by decide) (fun c8 => ?_) (fun c8 => ?_)
      · have hf := it_f c8 hf
        exact w6_hangs_882 X hI hl0 hZ hH ⟨by omega, by omega⟩ (lv_sub hl [0, 1, 2, 3] rfl) hf
      · have hf := it_t c8 hf
        refine lv_aload_n hx hb dL_hangs_859 rfl (lv_at hl 0 rfl) ?_
        refine lv_bipush (v := 9) hx hb dL_hangs_860 (by decide) ?_
        refine lv_iconst (v := 0) hx hb dL_hangs_862 (by decide) ?_
        obtain ⟨t9, ht9, hf⟩ := bd_o hf
        refine kh (MC := 960) (MS := 5760) (As := [.ref (ad 150), .int 9, .int 0]) (rest := []) ⟨rfl, rfl⟩ X hZ hH (h6_ifRun l hI hl0 _ 9 0 ht9) (vx_cwSW 3 hts qL_147 rfl rfl rfl (by decide +kernel) ⟨Nat.le_of_ble_eq_true rfl, Nat.le_of_ble_eq_true rfl⟩) rfl hl.1 rfl (Nat.le_of_ble_eq_true rfl) dL_hangs_863 ⟨by omega, by omega⟩ (fun H locs hH => ?_)
        refine lv_aload_n hx hb dL_hangs_866 rfl (lv_at hl 0 rfl) ?_
        refine lv_bipush (v := 9) hx hb dL_hangs_867 (by decide) ?_
        refine lv_iconst (v := 1) hx hb dL_hangs_869 (by decide) ?_
        obtain ⟨t10, ht10, hf⟩ := bd_o hf
        refine kh (MC := 960) (MS := 5760) (As := [.ref (ad 150), .int 9, .int 1]) (rest := [.int t9.1]) ⟨rfl, rfl⟩ X hZ hH (h6_ifRun l hI hl0 _ 9 1 ht10) (vx_cwSW 3 hts qL_147 rfl rfl rfl (by decide +kernel) ⟨Nat.le_of_ble_eq_true rfl, Nat.le_of_ble_eq_true rfl⟩) rfl hl.1 rfl (Nat.le_of_ble_eq_true rfl) dL_hangs_870 ⟨by omega, by omega⟩ (fun H locs hH => ?_)
        refine lv_iadd hx hb dL_hangs_873 ?_
        refine lv_iload_n hx hb dL_hangs_874 rfl (lv_at hl 1 rfl) ?_
        refine lv_icmp_gt (tgt := 882) hx hb dL_hangs_875 (by decide) (fun c11 => ?_) (fun c11 => ?_)
        · have hf := it_t c11 hf
          exact w6_hangs_882 X hI hl0 hZ hH ⟨by omega, by omega⟩ (lv_sub hl [0, 1, 2, 3] rfl) hf
        · have hf := it_f c11 hf
          refine lv_iconst (v := 1) hx hb dL_hangs_878 (by decide) ?_
          refine lv_goto (tgt := 883) hx hb dL_hangs_879 (by decide) ?_
          exact w6_hangs_883 X hI hl0 hZ hH ⟨by omega, by omega⟩ (lv_sub hl [0, 1, 2, 3] rfl) hf
def f6_hangs_777 (x3 : Int32) (x4 : Int32) (x5 : Int32) (x6 : Int32) (x8 : Int32) (mu : Nat → Nat → Int32) : Option (Int32 × (Nat → Nat → Int32)) := if x6 = 0 then (f6_hangs_882 x3 x4 x5 mu) else (Option.bind (f6_cars_0 mu 1) (fun t2 => if x8 = t2 then (Option.bind (f6_rolling_0 mu 8) (fun t4 => if t4 = ((-1)) then (if 0 < x8 then (f6_hangs_816 x3 x4 x5 x8 mu) else (Option.bind (f4_meanSpeed_0 mu) (fun t7 => if (Op.cmpValue (FP.fcmp t7 FP.fconst0) .l) = 0 then (f6_hangs_816 x3 x4 x5 x8 mu) else (f6_hangs_882 x3 x4 x5 mu)))) else (f6_hangs_882 x3 x4 x5 mu))) else (f6_hangs_882 x3 x4 x5 mu)))
set_option maxRecDepth 100000 in
set_option maxHeartbeats 4000000 in
theorem w6_hangs_777 {p : Program} {l : Launch} {e : Env} {s : State} {m : MethodId} {args : Array Value} {below : List Frame} {meth : Method} {c : Code} {D : va_G} {Y : cYt} {ad : Nat → Nat} {mu : Nat → Nat → Int32} (X : cX D Y p s m args meth c cL_hangs 12 RL (some .boolean)) (hI : cInj ad) (hl0 : l.stackTraces = false) (hZ : lZ ad s.heap.size s)  {x3 : Int32} {x4 : Int32} {x5 : Int32} {x6 : Int32} {x8 : Int32} {t : Int32 × (Nat → Nat → Int32)} {H : Heap} {locs : List Loc} (hH : cH D Y ad mu s H locs) {cells slots : Nat} (hc : cells + 3 * (17) ≤ 960 ∧ slots + 18 * (17) ≤ 5760) {ls : Array Slot} (hl : lv_has ls 12 [(0, .ref (ad 150)), (3, .int x3), (4, .int x4), (5, .int x5), (6, .int x6), (8, .int x8)]) (hf : f6_hangs_777 x3 x4 x5 x6 x8 mu = some t) : W p l e rm6_hangs s m args below meth c H locs cells slots (MQ below (va_Qi (fun (r9 : Int32) (_ : Unit) => r9 = t.1) (fun _ t9 => cB D Y ad t.2 t9) (cA ad s.heap.size)) args s 960 5760 (cA ad s.heap.size)) (F0 m 777 ls []) := by
  obtain ⟨⟨hx, hb, hml, hown, hts⟩, hr, hlk, hK⟩ := id X
  replace hf : (if x6 = 0 then (f6_hangs_882 x3 x4 x5 mu) else (Option.bind (f6_cars_0 mu 1) (fun t2 => if x8 = t2 then (Option.bind (f6_rolling_0 mu 8) (fun t4 => if t4 = ((-1)) then (if 0 < x8 then (f6_hangs_816 x3 x4 x5 x8 mu) else (Option.bind (f4_meanSpeed_0 mu) (fun t7 => if (Op.cmpValue (FP.fcmp t7 FP.fconst0) .l) = 0 then (f6_hangs_816 x3 x4 x5 x8 mu) else (f6_hangs_882 x3 x4 x5 mu)))) else (f6_hangs_882 x3 x4 x5 mu))) else (f6_hangs_882 x3 x4 x5 mu)))) = some t := hf
  refine lv_iload hx hb dL_hangs_777 (lv_at hl 4 rfl) ?_
  refine lv_if_eq (tgt := 882) hx hb dL_hangs_779 (by decide) (fun c1 => ?_) (fun c1 => ?_)
  · have hf := it_t c1 hf
    exact w6_hangs_882 X hI hl0 hZ hH ⟨by omega, by omega⟩ (lv_sub hl [0, 1, 2, 3] rfl) hf
  · have hf := it_f c1 hf
    refine lv_iload hx hb dL_hangs_782 (lv_at hl 5 rfl) ?_
    refine lv_aload_n hx hb dL_hangs_784 rfl (lv_at hl 0 rfl) ?_
    refine lv_iconst (v := 1) hx hb dL_hangs_785 (by decide) ?_
    obtain ⟨t2, ht2, hf⟩ := bd_o hf
    refine kh (MC := 960) (MS := 5760) (As := [.ref (ad 150), .int 1]) (rest := [.int x8]) ⟨rfl, rfl⟩ X hZ hH (h6_cars l hI hl0 _ 1 ht2) (vx_cwSW 2 hts qL_132 rfl rfl rfl (by decide +kernel) ⟨Nat.le_of_ble_eq_true rfl, Nat.le_of_ble_eq_true rfl⟩) rfl hl.1 rfl (Nat.le_of_ble_eq_true rfl) dL_hangs_786 ⟨by omega, by omega⟩ (fun H locs hH => ?_)
    refine lv_icmp_ne (tgt := 882) hx hb dL_hangs_789 (by decide) (fun c3 => ?_) (fun c3 => ?_)
    · have hf := it_f c3 hf
      exact w6_hangs_882 X hI hl0 hZ hH ⟨by omega, by omega⟩ (lv_sub hl [0, 1, 2, 3] rfl) hf
    · have hf := it_t c3 hf
      refine lv_aload_n hx hb dL_hangs_792 rfl (lv_at hl 0 rfl) ?_
      refine lv_bipush (v := 8) hx hb dL_hangs_793 (by decide) ?_
      obtain ⟨t4, ht4, hf⟩ := bd_o hf
      refine kh (MC := 960) (MS := 5760) (As := [.ref (ad 150), .int 8]) (rest := []) ⟨rfl, rfl⟩ X hZ hH (h6_rolling l hI hl0 _ 8 ht4) (vx_cwSW 2 hts qL_141 rfl rfl rfl (by decide +kernel) ⟨Nat.le_of_ble_eq_true rfl, Nat.le_of_ble_eq_true rfl⟩) rfl hl.1 rfl (Nat.le_of_ble_eq_true rfl) dL_hangs_795 ⟨by omega, by omega⟩ (fun H locs hH => ?_)
      refine lv_iconst (v := (-1)) hx hb dL_hangs_798 (by decide) ?_
      refine lv_icmp_ne (tgt := 882) hx hb dL_hangs_799 (by decide) (fun c5 => ?_) (fun c5 => ?_)
      · have hf := it_f c5 hf
        exact w6_hangs_882 X hI hl0 hZ hH ⟨by omega, by omega⟩ (lv_sub hl [0, 1, 2, 3] rfl) hf
      · have hf := it_t c5 hf
        refine lv_iload hx hb dL_hangs_802 (lv_at hl 5 rfl) ?_
        refine lv_if_gt (tgt := 816) hx hb dL_hangs_804 (by decide) (fun c6 => ?_) (fun c6 => ?_)
        · have hf := it_t c6 hf
          exact w6_hangs_816 X hI hl0 hZ hH ⟨by omega, by omega⟩ (lv_sub hl [0, 1, 2, 3, 5] rfl) hf
        · have hf := it_f c6 hf
          refine lv_aload_n hx hb dL_hangs_807 rfl (lv_at hl 0 rfl) ?_
          obtain ⟨t7, ht7, hf⟩ := bd_o hf
          refine km6 X hH.1 (c4_meanSpeed l ht7) (cwV 0 hts qL_143 rfl rfl rfl (by decide +kernel) ⟨Nat.le_of_ble_eq_true rfl, Nat.le_of_ble_eq_true rfl⟩) hl.1 rfl (Nat.le_of_ble_eq_true rfl) dL_hangs_808 (kc6 (MC := 960) (MS := 5760) ⟨rfl, rfl⟩ ⟨by omega, by omega⟩) ?_
          refine lv_fconst0 hx hb dL_hangs_811 ?_
          refine lv_fcmp hx hb dL_hangs_812 ?_
          refine lv_if_ne (tgt := 882) hx hb dL_hangs_813 (by decide) (fun c8 => ?_) (fun c8 => ?_)
          · have hf := it_f c8 hf
            exact w6_hangs_882 X hI hl0 hZ hH ⟨by omega, by omega⟩ (lv_sub hl [0, 1, 2, 3] rfl) hf
          · have hf := it_t c8 hf
            exact w6_hangs_816 X hI hl0 hZ hH ⟨by omega, by omega⟩ (lv_sub hl [0, 1, 2, 3, 5] rfl) hf
def f6_hangs_771 (K690 : Int32 → Int32 → Int32 → Int32 → Int32 → Int32 → Int32 → (Nat → Nat → Int32) → (Option (Int32 × (Nat → Nat → Int32)))) (x3 : Int32) (x4 : Int32) (x5 : Int32) (x6 : Int32) (x7 : Int32) (x8 : Int32) (x9 : Int32) (mu : Nat → Nat → Int32) : Option (Int32 × (Nat → Nat → Int32)) := K690 x3 x4 x5 x6 x7 x8 (x9 + 1) mu
set_option maxRecDepth 100000 in
set_option maxHeartbeats 4000000 in
theorem w6_hangs_771 {p : Program} {l : Launch} {e : Env} {s : State} {m : MethodId} {args : Array Value} {below : List Frame} {meth : Method} {c : Code} {D : va_G} {Y : cYt} {ad : Nat → Nat} {mu : Nat → Nat → Int32} (X : cX D Y p s m args meth c cL_hangs 12 RL (some .boolean)) (hI : cInj ad) (hl0 : l.stackTraces = false) (hZ : lZ ad s.heap.size s)  {x3 : Int32} {x4 : Int32} {x5 : Int32} {x6 : Int32} {x7 : Int32} {x8 : Int32} {x9 : Int32} {t : Int32 × (Nat → Nat → Int32)} {kb : Nat} (hkb : 13 ≤ kb) {K690 : Int32 → Int32 → Int32 → Int32 → Int32 → Int32 → Int32 → (Nat → Nat → Int32) → (Option (Int32 × (Nat → Nat → Int32)))} (hK690 : ∀ (x3 : Int32) (x4 : Int32) (x5 : Int32) (x6 : Int32) (x7 : Int32) (x8 : Int32) (x9 : Int32) (mu : Nat → Nat → Int32) (H : Heap) (locs : List Loc) (cells slots : Nat), cH D Y ad mu s H locs → cells + 3 * (kb) ≤ 960 ∧ slots + 18 * (kb) ≤ 5760 → ∀ (ls : Array Slot), lv_has ls 12 [(0, .ref (ad 150)), (3, .int x3), (4, .int x4), (5, .int x5), (6, .int x6), (7, .int x7), (8, .int x8), (9, .int x9)] → K690 x3 x4 x5 x6 x7 x8 x9 mu = some t → W p l e rm6_hangs s m args below meth c H locs cells slots (MQ below (va_Qi (fun (r9 : Int32) (_ : Unit) => r9 = t.1) (fun _ t9 => cB D Y ad t.2 t9) (cA ad s.heap.size)) args s 960 5760 (cA ad s.heap.size)) (F0 m 690 ls [])) {H : Heap} {locs : List Loc} (hH : cH D Y ad mu s H locs) {cells slots : Nat} (hc : cells + 3 * (0 + kb) ≤ 960 ∧ slots + 18 * (0 + kb) ≤ 5760) {ls : Array Slot} (hl : lv_has ls 12 [(0, .ref (ad 150)), (3, .int x3), (4, .int x4), (5, .int x5), (6, .int x6), (7, .int x7), (8, .int x8), (9, .int x9)]) (hf : f6_hangs_771 K690 x3 x4 x5 x6 x7 x8 x9 mu = some t) : W p l e rm6_hangs s m args below meth c H locs cells slots (MQ below (va_Qi (fun (r9 : Int32) (_ : Unit) => r9 = t.1) (fun _ t9 => cB D Y ad t.2 t9) (cA ad s.heap.size)) args s 960 5760 (cA ad s.heap.size)) (F0 m 771 ls []) := by
  obtain ⟨⟨hx, hb, hml, hown, hts⟩, hr, hlk, hK⟩ := id X
  replace hf : (K690 x3 x4 x5 x6 x7 x8 (x9 + 1) mu) = some t := hf
  refine lv_iinc (v := x9 + 1) (lv' := [(9, .int (x9 + 1)), (0, .ref (ad 150)), (3, .int x3), (4, .int x4), (5, .int x5), (6, .int x6), (7, .int x7), (8, .int x8)]) hx hb dL_hangs_771 hl (k := 7) rfl rfl (by decide) rfl (fun ls hl => ?_)
  refine lv_goto (tgt := 690) hx hb dL_hangs_774 (by decide) ?_
  exact hK690 _ _ _ _ _ _ _ _ _ _ _ _ hH ⟨by omega, by omega⟩ _ (lv_sub hl [1, 2, 3, 4, 5, 6, 7, 0] rfl) hf
def f6_hangs_756 (K690 : Int32 → Int32 → Int32 → Int32 → Int32 → Int32 → Int32 → (Nat → Nat → Int32) → (Option (Int32 × (Nat → Nat → Int32)))) (x3 : Int32) (x4 : Int32) (x5 : Int32) (x8 : Int32) (x9 : Int32) (x10 : Int32) (y0 : Int32) (mu : Nat → Nat → Int32) : Option (Int32 × (Nat → Nat → Int32)) := f6_hangs_771 K690 x3 x4 x5 y0 x10 (x8 ||| (1 <<< (x10 &&& 31))) x9 mu
set_option maxRecDepth 100000 in
set_option maxHeartbeats 4000000 in
theorem w6_hangs_756 {p : Program} {l : Launch} {e : Env} {s : State} {m : MethodId} {args : Array Value} {below : List Frame} {meth : Method} {c : Code} {D : va_G} {Y : cYt} {ad : Nat → Nat} {mu : Nat → Nat → Int32} (X : cX D Y p s m args meth c cL_hangs 12 RL (some .boolean)) (hI : cInj ad) (hl0 : l.stackTraces = false) (hZ : lZ ad s.heap.size s)  {x3 : Int32} {x4 : Int32} {x5 : Int32} {x8 : Int32} {x9 : Int32} {x10 : Int32} {y0 : Int32} {t : Int32 × (Nat → Nat → Int32)} {kb : Nat} (hkb : 13 ≤ kb) {K690 : Int32 → Int32 → Int32 → Int32 → Int32 → Int32 → Int32 → (Nat → Nat → Int32) → (Option (Int32 × (Nat → Nat → Int32)))} (hK690 : ∀ (x3 : Int32) (x4 : Int32) (x5 : Int32) (x6 : Int32) (x7 : Int32) (x8 : Int32) (x9 : Int32) (mu : Nat → Nat → Int32) (H : Heap) (locs : List Loc) (cells slots : Nat), cH D Y ad mu s H locs → cells + 3 * (kb) ≤ 960 ∧ slots + 18 * (kb) ≤ 5760 → ∀ (ls : Array Slot), lv_has ls 12 [(0, .ref (ad 150)), (3, .int x3), (4, .int x4), (5, .int x5), (6, .int x6), (7, .int x7), (8, .int x8), (9, .int x9)] → K690 x3 x4 x5 x6 x7 x8 x9 mu = some t → W p l e rm6_hangs s m args below meth c H locs cells slots (MQ below (va_Qi (fun (r9 : Int32) (_ : Unit) => r9 = t.1) (fun _ t9 => cB D Y ad t.2 t9) (cA ad s.heap.size)) args s 960 5760 (cA ad s.heap.size)) (F0 m 690 ls [])) {H : Heap} {locs : List Loc} (hH : cH D Y ad mu s H locs) {cells slots : Nat} (hc : cells + 3 * (0 + kb) ≤ 960 ∧ slots + 18 * (0 + kb) ≤ 5760) {ls : Array Slot} (hl : lv_has ls 12 [(0, .ref (ad 150)), (3, .int x3), (4, .int x4), (5, .int x5), (8, .int x8), (9, .int x9), (10, .int x10)]) (hf : f6_hangs_756 K690 x3 x4 x5 x8 x9 x10 y0 mu = some t) : W p l e rm6_hangs s m args below meth c H locs cells slots (MQ below (va_Qi (fun (r9 : Int32) (_ : Unit) => r9 = t.1) (fun _ t9 => cB D Y ad t.2 t9) (cA ad s.heap.size)) args s 960 5760 (cA ad s.heap.size)) (F0 m 756 ls [.int y0]) := by
  obtain ⟨⟨hx, hb, hml, hown, hts⟩, hr, hlk, hK⟩ := id X
  replace hf : (f6_hangs_771 K690 x3 x4 x5 y0 x10 (x8 ||| (1 <<< (x10 &&& 31))) x9 mu) = some t := hf
  refine lv_istore (lv' := [(6, .int y0), (0, .ref (ad 150)), (3, .int x3), (4, .int x4), (5, .int x5), (8, .int x8), (9, .int x9), (10, .int x10)]) hx hb dL_hangs_756 hl (by decide) rfl (fun ls hl => ?_)
  refine lv_iload hx hb dL_hangs_758 (lv_at hl 7 rfl) ?_
  refine lv_istore (lv' := [(7, .int x10), (6, .int y0), (0, .ref (ad 150)), (3, .int x3), (4, .int x4), (5, .int x5), (8, .int x8), (9, .int x9), (10, .int x10)]) hx hb dL_hangs_760 hl (by decide) rfl (fun ls hl => ?_)
  refine lv_iload hx hb dL_hangs_762 (lv_at hl 6 rfl) ?_
  refine lv_iconst (v := 1) hx hb dL_hangs_764 (by decide) ?_
  refine lv_iload hx hb dL_hangs_765 (lv_at hl 8 rfl) ?_
  refine lv_ishl hx hb dL_hangs_767 ?_
  refine lv_ior hx hb dL_hangs_768 ?_
  refine lv_istore (lv' := [(8, .int (x8 ||| (1 <<< (x10 &&& 31)))), (7, .int x10), (6, .int y0), (0, .ref (ad 150)), (3, .int x3), (4, .int x4), (5, .int x5), (9, .int x9), (10, .int x10)]) hx hb dL_hangs_769 hl (by decide) rfl (fun ls hl => ?_)
  exact w6_hangs_771 X hI hl0 hZ (kb := kb) (by omega) (K690 := K690) hK690 hH ⟨by omega, by omega⟩ (lv_sub hl [3, 4, 5, 6, 2, 1, 0, 7] rfl) hf
def f6_hangs_755 (K690 : Int32 → Int32 → Int32 → Int32 → Int32 → Int32 → Int32 → (Nat → Nat → Int32) → (Option (Int32 × (Nat → Nat → Int32)))) (x3 : Int32) (x4 : Int32) (x5 : Int32) (x8 : Int32) (x9 : Int32) (x10 : Int32) (mu : Nat → Nat → Int32) : Option (Int32 × (Nat → Nat → Int32)) := f6_hangs_756 K690 x3 x4 x5 x8 x9 x10 0 mu
set_option maxRecDepth 100000 in
set_option maxHeartbeats 4000000 in
theorem w6_hangs_755 {p : Program} {l : Launch} {e : Env} {s : State} {m : MethodId} {args : Array Value} {below : List Frame} {meth : Method} {c : Code} {D : va_G} {Y : cYt} {ad : Nat → Nat} {mu : Nat → Nat → Int32} (X : cX D Y p s m args meth c cL_hangs 12 RL (some .boolean)) (hI : cInj ad) (hl0 : l.stackTraces = false) (hZ : lZ ad s.heap.size s)  {x3 : Int32} {x4 : Int32} {x5 : Int32} {x8 : Int32} {x9 : Int32} {x10 : Int32} {t : Int32 × (Nat → Nat → Int32)} {kb : Nat} (hkb : 13 ≤ kb) {K690 : Int32 → Int32 → Int32 → Int32 → Int32 → Int32 → Int32 → (Nat → Nat → Int32) → (Option (Int32 × (Nat → Nat → Int32)))} (hK690 : ∀ (x3 : Int32) (x4 : Int32) (x5 : Int32) (x6 : Int32) (x7 : Int32) (x8 : Int32) (x9 : Int32) (mu : Nat → Nat → Int32) (H : Heap) (locs : List Loc) (cells slots : Nat), cH D Y ad mu s H locs → cells + 3 * (kb) ≤ 960 ∧ slots + 18 * (kb) ≤ 5760 → ∀ (ls : Array Slot), lv_has ls 12 [(0, .ref (ad 150)), (3, .int x3), (4, .int x4), (5, .int x5), (6, .int x6), (7, .int x7), (8, .int x8), (9, .int x9)] → K690 x3 x4 x5 x6 x7 x8 x9 mu = some t → W p l e rm6_hangs s m args below meth c H locs cells slots (MQ below (va_Qi (fun (r9 : Int32) (_ : Unit) => r9 = t.1) (fun _ t9 => cB D Y ad t.2 t9) (cA ad s.heap.size)) args s 960 5760 (cA ad s.heap.size)) (F0 m 690 ls [])) {H : Heap} {locs : List Loc} (hH : cH D Y ad mu s H locs) {cells slots : Nat} (hc : cells + 3 * (0 + kb) ≤ 960 ∧ slots + 18 * (0 + kb) ≤ 5760) {ls : Array Slot} (hl : lv_has ls 12 [(0, .ref (ad 150)), (3, .int x3), (4, .int x4), (5, .int x5), (8, .int x8), (9, .int x9), (10, .int x10)]) (hf : f6_hangs_755 K690 x3 x4 x5 x8 x9 x10 mu = some t) : W p l e rm6_hangs s m args below meth c H locs cells slots (MQ below (va_Qi (fun (r9 : Int32) (_ : Unit) => r9 = t.1) (fun _ t9 => cB D Y ad t.2 t9) (cA ad s.heap.size)) args s 960 5760 (cA ad s.heap.size)) (F0 m 755 ls []) := by
  obtain ⟨⟨hx, hb, hml, hown, hts⟩, hr, hlk, hK⟩ := id X
  replace hf : (f6_hangs_756 K690 x3 x4 x5 x8 x9 x10 0 mu) = some t := hf
  refine lv_iconst (v := 0) hx hb dL_hangs_755 (by decide) ?_
  exact w6_hangs_756 X hI hl0 hZ (kb := kb) (by omega) (K690 := K690) hK690 hH ⟨by omega, by omega⟩ (lv_sub hl [0, 1, 2, 3, 4, 5, 6] rfl) hf
def f6_hangs_751 (K690 : Int32 → Int32 → Int32 → Int32 → Int32 → Int32 → Int32 → (Nat → Nat → Int32) → (Option (Int32 × (Nat → Nat → Int32)))) (x3 : Int32) (x4 : Int32) (x5 : Int32) (x8 : Int32) (x9 : Int32) (x10 : Int32) (mu : Nat → Nat → Int32) : Option (Int32 × (Nat → Nat → Int32)) := f6_hangs_756 K690 x3 x4 x5 x8 x9 x10 1 mu
set_option maxRecDepth 100000 in
set_option maxHeartbeats 4000000 in
theorem w6_hangs_751 {p : Program} {l : Launch} {e : Env} {s : State} {m : MethodId} {args : Array Value} {below : List Frame} {meth : Method} {c : Code} {D : va_G} {Y : cYt} {ad : Nat → Nat} {mu : Nat → Nat → Int32} (X : cX D Y p s m args meth c cL_hangs 12 RL (some .boolean)) (hI : cInj ad) (hl0 : l.stackTraces = false) (hZ : lZ ad s.heap.size s)  {x3 : Int32} {x4 : Int32} {x5 : Int32} {x8 : Int32} {x9 : Int32} {x10 : Int32} {t : Int32 × (Nat → Nat → Int32)} {kb : Nat} (hkb : 13 ≤ kb) {K690 : Int32 → Int32 → Int32 → Int32 → Int32 → Int32 → Int32 → (Nat → Nat → Int32) → (Option (Int32 × (Nat → Nat → Int32)))} (hK690 : ∀ (x3 : Int32) (x4 : Int32) (x5 : Int32) (x6 : Int32) (x7 : Int32) (x8 : Int32) (x9 : Int32) (mu : Nat → Nat → Int32) (H : Heap) (locs : List Loc) (cells slots : Nat), cH D Y ad mu s H locs → cells + 3 * (kb) ≤ 960 ∧ slots + 18 * (kb) ≤ 5760 → ∀ (ls : Array Slot), lv_has ls 12 [(0, .ref (ad 150)), (3, .int x3), (4, .int x4), (5, .int x5), (6, .int x6), (7, .int x7), (8, .int x8), (9, .int x9)] → K690 x3 x4 x5 x6 x7 x8 x9 mu = some t → W p l e rm6_hangs s m args below meth c H locs cells slots (MQ below (va_Qi (fun (r9 : Int32) (_ : Unit) => r9 = t.1) (fun _ t9 => cB D Y ad t.2 t9) (cA ad s.heap.size)) args s 960 5760 (cA ad s.heap.size)) (F0 m 690 ls [])) {H : Heap} {locs : List Loc} (hH : cH D Y ad mu s H locs) {cells slots : Nat} (hc : cells + 3 * (0 + kb) ≤ 960 ∧ slots + 18 * (0 + kb) ≤ 5760) {ls : Array Slot} (hl : lv_has ls 12 [(0, .ref (ad 150)), (3, .int x3), (4, .int x4), (5, .int x5), (8, .int x8), (9, .int x9), (10, .int x10)]) (hf : f6_hangs_751 K690 x3 x4 x5 x8 x9 x10 mu = some t) : W p l e rm6_hangs s m args below meth c H locs cells slots (MQ below (va_Qi (fun (r9 : Int32) (_ : Unit) => r9 = t.1) (fun _ t9 => cB D Y ad t.2 t9) (cA ad s.heap.size)) args s 960 5760 (cA ad s.heap.size)) (F0 m 751 ls []) := by
  obtain ⟨⟨hx, hb, hml, hown, hts⟩, hr, hlk, hK⟩ := id X
  replace hf : (f6_hangs_756 K690 x3 x4 x5 x8 x9 x10 1 mu) = some t := hf
  refine lv_iconst (v := 1) hx hb dL_hangs_751 (by decide) ?_
  refine lv_goto (tgt := 756) hx hb dL_hangs_752 (by decide) ?_
  exact w6_hangs_756 X hI hl0 hZ (kb := kb) (by omega) (K690 := K690) hK690 hH ⟨by omega, by omega⟩ (lv_sub hl [0, 1, 2, 3, 4, 5, 6] rfl) hf
def f6_hangs_690 : Nat → Int32 → Int32 → Int32 → Int32 → Int32 → Int32 → Int32 → (Nat → Nat → Int32) → Option (Int32 × (Nat → Nat → Int32))
  | 0, _, _, _, _, _, _, _, _ => none
  | n + 1, x3, x4, x5, x6, x7, x8, x9, mu => if 8 ≤ x9 then (f6_hangs_777 x3 x4 x5 x6 x8 mu) else (if x6 = 0 then (f6_hangs_777 x3 x4 x5 x6 x8 mu) else (Option.bind (f6_rolling_0 mu x9) (fun t3 => if t3 < 0 then (f6_hangs_771 (f6_hangs_690 n) x3 x4 x5 x6 x7 x8 x9 mu) else (Option.bind (f6_carOf_0 mu t3 0) (fun t5 => if t5 = 1 then (if x7 < 0 then (f6_hangs_751 (f6_hangs_690 n) x3 x4 x5 x8 x9 t3 mu) else (Option.bind (f6_carOf_0 mu x7 4) (fun t8 => Option.bind (f6_carOf_0 mu t3 4) (fun t9 => if (t8 - t9) < 10 then (f6_hangs_755 (f6_hangs_690 n) x3 x4 x5 x8 x9 t3 mu) else (f6_hangs_751 (f6_hangs_690 n) x3 x4 x5 x8 x9 t3 mu))))) else (f6_hangs_755 (f6_hangs_690 n) x3 x4 x5 x8 x9 t3 mu))))))
set_option maxRecDepth 100000 in
set_option maxHeartbeats 4000000 in
theorem w6_hangs_690 {p : Program} {l : Launch} {e : Env} {s : State} {m : MethodId} {args : Array Value} {below : List Frame} {meth : Method} {c : Code} {D : va_G} {Y : cYt} {ad : Nat → Nat} (X : cX D Y p s m args meth c cL_hangs 12 RL (some .boolean)) (hI : cInj ad) (hl0 : l.stackTraces = false) (hZ : lZ ad s.heap.size s)  {t : Int32 × (Nat → Nat → Int32)} :
    ∀ (n : Nat) (x3 : Int32) (x4 : Int32) (x5 : Int32) (x6 : Int32) (x7 : Int32) (x8 : Int32) (x9 : Int32) (mu : Nat → Nat → Int32) (H : Heap) (locs : List Loc) (cells slots : Nat), cH D Y ad mu s H locs → cells + 3 * (n * 4 + 13) ≤ 960 ∧ slots + 18 * (n * 4 + 13) ≤ 5760 → ∀ (ls : Array Slot), lv_has ls 12 [(0, .ref (ad 150)), (3, .int x3), (4, .int x4), (5, .int x5), (6, .int x6), (7, .int x7), (8, .int x8), (9, .int x9)] → f6_hangs_690 n x3 x4 x5 x6 x7 x8 x9 mu = some t → W p l e rm6_hangs s m args below meth c H locs cells slots (MQ below (va_Qi (fun (r9 : Int32) (_ : Unit) => r9 = t.1) (fun _ t9 => cB D Y ad t.2 t9) (cA ad s.heap.size)) args s 960 5760 (cA ad s.heap.size)) (F0 m 690 ls []) := by
  obtain ⟨⟨hx, hb, hml, hown, hts⟩, hr, hlk, hK⟩ := id X
  intro n
  induction n with
  | zero =>
    intro x3 x4 x5 x6 x7 x8 x9 mu H locs cells slots hH hc ls hl hf
    cases hf
  | succ n ih =>
    intro x3 x4 x5 x6 x7 x8 x9 mu H locs cells slots hH hc ls hl hf
    replace hf : (if 8 ≤ x9 then (f6_hangs_777 x3 x4 x5 x6 x8 mu) else (if x6 = 0 then (f6_hangs_777 x3 x4 x5 x6 x8 mu) else (Option.bind (f6_rolling_0 mu x9) (fun t3 => if t3 < 0 then (f6_hangs_771 (f6_hangs_690 n) x3 x4 x5 x6 x7 x8 x9 mu) else (Option.bind (f6_carOf_0 mu t3 0) (fun t5 => if t5 = 1 then (if x7 < 0 then (f6_hangs_751 (f6_hangs_690 n) x3 x4 x5 x8 x9 t3 mu) else (Option.bind (f6_carOf_0 mu x7 4) (fun t8 => Option.bind (f6_carOf_0 mu t3 4) (fun t9 => if (t8 - t9) < 10 then (f6_hangs_755 (f6_hangs_690 n) x3 x4 x5 x8 x9 t3 mu) else (f6_hangs_751 (f6_hangs_690 n) x3 x4 x5 x8 x9 t3 mu))))) else (f6_hangs_755 (f6_hangs_690 n) x3 x4 x5 x8 x9 t3 mu))))))) = some t := hf
    refine lv_iload hx hb dL_hangs_690 (lv_at hl 7 rfl) ?_
    refine lv_bipush (v := 8) hx hb dL_hangs_692 (by decide) ?_
    refine lv_icmp_ge (tgt := 777) hx hb dL_hangs_694 (by decide) (fun c1 => ?_) (fun c1 => ?_)
    · have hf := it_t c1 hf
      exact w6_hangs_777 X hI hl0 hZ hH ⟨by omega, by omega⟩ (lv_sub hl [0, 1, 2, 3, 4, 6] rfl) hf
    · have hf := it_f c1 hf
      refine lv_iload hx hb dL_hangs_697 (lv_at hl 4 rfl) ?_
      refine lv_if_eq (tgt := 777) hx hb dL_hangs_699 (by decide) (fun c2 => ?_) (fun c2 => ?_)
      · have hf := it_t c2 hf
        exact w6_hangs_777 X hI hl0 hZ hH ⟨by omega, by omega⟩ (lv_sub hl [0, 1, 2, 3, 4, 6] rfl) hf
      · have hf := it_f c2 hf
        refine lv_aload_n hx hb dL_hangs_702 rfl (lv_at hl 0 rfl) ?_
        refine lv_iload hx hb dL_hangs_703 (lv_at hl 7 rfl) ?_
        obtain ⟨t3, ht3, hf⟩ := bd_o hf
        refine kh (MC := 960) (MS := 5760) (As := [.ref (ad 150), .int x9]) (rest := []) ⟨rfl, rfl⟩ X hZ hH (h6_rolling l hI hl0 _ x9 ht3) (vx_cwSW 2 hts qL_141 rfl rfl rfl (by decide +kernel) ⟨Nat.le_of_ble_eq_true rfl, Nat.le_of_ble_eq_true rfl⟩) rfl hl.1 rfl (Nat.le_of_ble_eq_true rfl) dL_hangs_705 ⟨by omega, by omega⟩ (fun H locs hH => ?_)
        refine lv_istore (lv' := [(10, .int t3), (0, .ref (ad 150)), (3, .int x3), (4, .int x4), (5, .int x5), (6, .int x6), (7, .int x7), (8, .int x8), (9, .int x9)]) hx hb dL_hangs_708 hl (by decide) rfl (fun ls hl => ?_)
        refine lv_iload hx hb dL_hangs_710 (lv_at hl 0 rfl) ?_
        refine lv_if_lt (tgt := 771) hx hb dL_hangs_712 (by decide) (fun c4 => ?_) (fun c4 => ?_)
        · have hf := it_t c4 hf
          exact w6_hangs_771 X hI hl0 hZ (kb := n * 4 + 13) (by omega) (K690 := (f6_hangs_690 n)) ih hH ⟨by omega, by omega⟩ (lv_sub hl [1, 2, 3, 4, 5, 6, 7, 8] rfl) hf
        · have hf := it_f c4 hf
          refine lv_aload_n hx hb dL_hangs_715 rfl (lv_at hl 1 rfl) ?_
          refine lv_iload hx hb dL_hangs_716 (lv_at hl 0 rfl) ?_
          refine lv_iconst (v := 0) hx hb dL_hangs_718 (by decide) ?_
          obtain ⟨t5, ht5, hf⟩ := bd_o hf
          refine kh (MC := 960) (MS := 5760) (As := [.ref (ad 150), .int t3, .int 0]) (rest := []) ⟨rfl, rfl⟩ X hZ hH (h6_carOf l hI hl0 _ t3 0 ht5) (vx_cwSW 3 hts qL_134 rfl rfl rfl (by decide +kernel) ⟨Nat.le_of_ble_eq_true rfl, Nat.le_of_ble_eq_true rfl⟩) rfl hl.1 rfl (Nat.le_of_ble_eq_true rfl) dL_hangs_719 ⟨by omega, by omega⟩ (fun H locs hH => ?_)
          refine lv_iconst (v := 1) hx hb dL_hangs_722 (by decide) ?_
          refine lv_icmp_ne (tgt := 755) hx hb dL_hangs_723 (by decide) (fun c6 => ?_) (fun c6 => ?_)
          · have hf := it_f c6 hf
            exact w6_hangs_755 X hI hl0 hZ (kb := n * 4 + 13) (by omega) (K690 := (f6_hangs_690 n)) ih hH ⟨by omega, by omega⟩ (lv_sub hl [1, 2, 3, 4, 7, 8, 0] rfl) hf
          · have hf := it_t c6 hf
            refine lv_iload hx hb dL_hangs_726 (lv_at hl 6 rfl) ?_
            refine lv_if_lt (tgt := 751) hx hb dL_hangs_728 (by decide) (fun c7 => ?_) (fun c7 => ?_)
            · have hf := it_t c7 hf
              exact w6_hangs_751 X hI hl0 hZ (kb := n * 4 + 13) (by omega) (K690 := (f6_hangs_690 n)) ih hH ⟨by omega, by omega⟩ (lv_sub hl [1, 2, 3, 4, 7, 8, 0] rfl) hf
            · have hf := it_f c7 hf
              refine lv_aload_n hx hb dL_hangs_731 rfl (lv_at hl 1 rfl) ?_
              refine lv_iload hx hb dL_hangs_732 (lv_at hl 6 rfl) ?_
              refine lv_iconst (v := 4) hx hb dL_hangs_734 (by decide) ?_
              obtain ⟨t8, ht8, hf⟩ := bd_o hf
              refine kh (MC := 960) (MS := 5760) (As := [.ref (ad 150), .int x7, .int 4]) (rest := []) ⟨rfl, rfl⟩ X hZ hH (h6_carOf l hI hl0 _ x7 4 ht8) (vx_cwSW 3 hts qL_134 rfl rfl rfl (by decide +kernel) ⟨Nat.le_of_ble_eq_true rfl, Nat.le_of_ble_eq_true rfl⟩) rfl hl.1 rfl (Nat.le_of_ble_eq_true rfl) dL_hangs_735 ⟨by omega, by omega⟩ (fun H locs hH => ?_)
              refine lv_aload_n hx hb dL_hangs_738 rfl (lv_at hl 1 rfl) ?_
              refine lv_iload hx hb dL_hangs_739 (lv_at hl 0 rfl) ?_
              refine lv_iconst (v := 4) hx hb dL_hangs_741 (by decide) ?_
              obtain ⟨t9, ht9, hf⟩ := bd_o hf
              refine kh (MC := 960) (MS := 5760) (As := [.ref (ad 150), .int t3, .int 4]) (rest := [.int t8]) ⟨rfl, rfl⟩ X hZ hH (h6_carOf l hI hl0 _ t3 4 ht9) (vx_cwSW 3 hts qL_134 rfl rfl rfl (by decide +kernel) ⟨Nat.le_of_ble_eq_true rfl, Nat.le_of_ble_eq_true rfl⟩) rfl hl.1 rfl (Nat.le_of_ble_eq_true rfl) dL_hangs_742 ⟨by omega, by omega⟩ (fun H locs hH => ?_)
              refine lv_isub hx hb dL_hangs_745 ?_
              refine lv_bipush (v := 10) hx hb dL_hangs_746 (by decide) ?_
              refine lv_icmp_lt (tgt := 755) hx hb dL_hangs_748 (by decide) (fun c10 => ?_) (fun c10 => ?_)
              · have hf := it_t c10 hf
                exact w6_hangs_755 X hI hl0 hZ (kb := n * 4 + 13) (by omega) (K690 := (f6_hangs_690 n)) ih hH ⟨by omega, by omega⟩ (lv_sub hl [1, 2, 3, 4, 7, 8, 0] rfl) hf
              · have hf := it_f c10 hf
                exact w6_hangs_751 X hI hl0 hZ (kb := n * 4 + 13) (by omega) (K690 := (f6_hangs_690 n)) ih hH ⟨by omega, by omega⟩ (lv_sub hl [1, 2, 3, 4, 7, 8, 0] rfl) hf
def f6_hangs_681 (x3 : Int32) (x4 : Int32) (x5 : Int32) (x6 : Int32) (mu : Nat → Nat → Int32) : Option (Int32 × (Nat → Nat → Int32)) := f6_hangs_690 10 x3 x4 x5 x6 ((-1)) 0 0 mu
set_option maxRecDepth 100000 in
set_option maxHeartbeats 4000000 in
theorem w6_hangs_681 {p : Program} {l : Launch} {e : Env} {s : State} {m : MethodId} {args : Array Value} {below : List Frame} {meth : Method} {c : Code} {D : va_G} {Y : cYt} {ad : Nat → Nat} {mu : Nat → Nat → Int32} (X : cX D Y p s m args meth c cL_hangs 12 RL (some .boolean)) (hI : cInj ad) (hl0 : l.stackTraces = false) (hZ : lZ ad s.heap.size s)  {x3 : Int32} {x4 : Int32} {x5 : Int32} {x6 : Int32} {t : Int32 × (Nat → Nat → Int32)} {H : Heap} {locs : List Loc} (hH : cH D Y ad mu s H locs) {cells slots : Nat} (hc : cells + 3 * (53) ≤ 960 ∧ slots + 18 * (53) ≤ 5760) {ls : Array Slot} (hl : lv_has ls 12 [(0, .ref (ad 150)), (3, .int x3), (4, .int x4), (5, .int x5), (6, .int x6)]) (hf : f6_hangs_681 x3 x4 x5 x6 mu = some t) : W p l e rm6_hangs s m args below meth c H locs cells slots (MQ below (va_Qi (fun (r9 : Int32) (_ : Unit) => r9 = t.1) (fun _ t9 => cB D Y ad t.2 t9) (cA ad s.heap.size)) args s 960 5760 (cA ad s.heap.size)) (F0 m 681 ls []) := by
  obtain ⟨⟨hx, hb, hml, hown, hts⟩, hr, hlk, hK⟩ := id X
  replace hf : (f6_hangs_690 10 x3 x4 x5 x6 ((-1)) 0 0 mu) = some t := hf
  refine lv_iconst (v := (-1)) hx hb dL_hangs_681 (by decide) ?_
  refine lv_istore (lv' := [(7, .int ((-1))), (0, .ref (ad 150)), (3, .int x3), (4, .int x4), (5, .int x5), (6, .int x6)]) hx hb dL_hangs_682 hl (by decide) rfl (fun ls hl => ?_)
  refine lv_iconst (v := 0) hx hb dL_hangs_684 (by decide) ?_
  refine lv_istore (lv' := [(8, .int 0), (7, .int ((-1))), (0, .ref (ad 150)), (3, .int x3), (4, .int x4), (5, .int x5), (6, .int x6)]) hx hb dL_hangs_685 hl (by decide) rfl (fun ls hl => ?_)
  refine lv_iconst (v := 0) hx hb dL_hangs_687 (by decide) ?_
  refine lv_istore (lv' := [(9, .int 0), (8, .int 0), (7, .int ((-1))), (0, .ref (ad 150)), (3, .int x3), (4, .int x4), (5, .int x5), (6, .int x6)]) hx hb dL_hangs_688 hl (by decide) rfl (fun ls hl => ?_)
  exact w6_hangs_690 X hI hl0 hZ 10 _ _ _ _ _ _ _ _ _ _ _ _ hH ⟨by omega, by omega⟩ _ (lv_sub hl [3, 4, 5, 6, 7, 2, 1, 0] rfl) hf
def f6_hangs_672 (K158 : Int32 → Int32 → Int32 → Int32 → Int32 → Int32 → (Nat → Nat → Int32) → (Option (Int32 × (Nat → Nat → Int32)))) (x1 : Int32) (x3 : Int32) (x4 : Int32) (x6 : Int32) (x7 : Int32) (y0 : Int32) (y1 : Int32) (mu : Nat → Nat → Int32) : Option (Int32 × (Nat → Nat → Int32)) := K158 x1 x3 x4 (y1 + y0) x6 (x7 + 1) mu
set_option maxRecDepth 100000 in
set_option maxHeartbeats 4000000 in
theorem w6_hangs_672 {p : Program} {l : Launch} {e : Env} {s : State} {m : MethodId} {args : Array Value} {below : List Frame} {meth : Method} {c : Code} {D : va_G} {Y : cYt} {ad : Nat → Nat} {mu : Nat → Nat → Int32} (X : cX D Y p s m args meth c cL_hangs 12 RL (some .boolean)) (hI : cInj ad) (hl0 : l.stackTraces = false) (hZ : lZ ad s.heap.size s)  {x1 : Int32} {x3 : Int32} {x4 : Int32} {x6 : Int32} {x7 : Int32} {y0 : Int32} {y1 : Int32} {t : Int32 × (Nat → Nat → Int32)} {kb : Nat} (hkb : 27 ≤ kb) {K158 : Int32 → Int32 → Int32 → Int32 → Int32 → Int32 → (Nat → Nat → Int32) → (Option (Int32 × (Nat → Nat → Int32)))} (hK158 : ∀ (x1 : Int32) (x3 : Int32) (x4 : Int32) (x5 : Int32) (x6 : Int32) (x7 : Int32) (mu : Nat → Nat → Int32) (H : Heap) (locs : List Loc) (cells slots : Nat), cH D Y ad mu s H locs → cells + 3 * (kb) ≤ 960 ∧ slots + 18 * (kb) ≤ 5760 → ∀ (ls : Array Slot), lv_has ls 12 [(0, .ref (ad 150)), (1, .int x1), (3, .int x3), (4, .int x4), (5, .int x5), (6, .int x6), (7, .int x7)] → K158 x1 x3 x4 x5 x6 x7 mu = some t → W p l e rm6_hangs s m args below meth c H locs cells slots (MQ below (va_Qi (fun (r9 : Int32) (_ : Unit) => r9 = t.1) (fun _ t9 => cB D Y ad t.2 t9) (cA ad s.heap.size)) args s 960 5760 (cA ad s.heap.size)) (F0 m 158 ls [])) {H : Heap} {locs : List Loc} (hH : cH D Y ad mu s H locs) {cells slots : Nat} (hc : cells + 3 * (0 + kb) ≤ 960 ∧ slots + 18 * (0 + kb) ≤ 5760) {ls : Array Slot} (hl : lv_has ls 12 [(0, .ref (ad 150)), (1, .int x1), (3, .int x3), (4, .int x4), (6, .int x6), (7, .int x7)]) (hf : f6_hangs_672 K158 x1 x3 x4 x6 x7 y0 y1 mu = some t) : W p l e rm6_hangs s m args below meth c H locs cells slots (MQ below (va_Qi (fun (r9 : Int32) (_ : Unit) => r9 = t.1) (fun _ t9 => cB D Y ad t.2 t9) (cA ad s.heap.size)) args s 960 5760 (cA ad s.heap.size)) (F0 m 672 ls [.int y0, .int y1]) := by
  obtain ⟨⟨hx, hb, hml, hown, hts⟩, hr, hlk, hK⟩ := id X
  replace hf : (K158 x1 x3 x4 (y1 + y0) x6 (x7 + 1) mu) = some t := hf
  refine lv_iadd hx hb dL_hangs_672 ?_
  refine lv_istore (lv' := [(5, .int (y1 + y0)), (0, .ref (ad 150)), (1, .int x1), (3, .int x3), (4, .int x4), (6, .int x6), (7, .int x7)]) hx hb dL_hangs_673 hl (by decide) rfl (fun ls hl => ?_)
  refine lv_iinc (v := x7 + 1) (lv' := [(7, .int (x7 + 1)), (5, .int (y1 + y0)), (0, .ref (ad 150)), (1, .int x1), (3, .int x3), (4, .int x4), (6, .int x6)]) hx hb dL_hangs_675 hl (k := 6) rfl rfl (by decide) rfl (fun ls hl => ?_)
  refine lv_goto (tgt := 158) hx hb dL_hangs_678 (by decide) ?_
  exact hK158 _ _ _ _ _ _ _ _ _ _ _ hH ⟨by omega, by omega⟩ _ (lv_sub hl [2, 3, 4, 5, 1, 6, 0] rfl) hf
def f6_hangs_634 (K158 : Int32 → Int32 → Int32 → Int32 → Int32 → Int32 → (Nat → Nat → Int32) → (Option (Int32 × (Nat → Nat → Int32)))) (x1 : Int32) (x3 : Int32) (x4 : Int32) (x5 : Int32) (x7 : Int32) (x8 : Int32) (y0 : Int32) (mu : Nat → Nat → Int32) : Option (Int32 × (Nat → Nat → Int32)) := Option.bind (f6_carOf_0 mu x7 1) (fun t1 => Option.bind (f6_carOf_0 mu x7 7) (fun t2 => if x8 = 4 then (f6_hangs_672 K158 x1 (x3 + t1) (x4 + t2) y0 x7 1 x5 mu) else (f6_hangs_672 K158 x1 (x3 + t1) (x4 + t2) y0 x7 0 x5 mu)))
set_option maxRecDepth 100000 in
set_option maxHeartbeats 4000000 in
theorem w6_hangs_634 {p : Program} {l : Launch} {e : Env} {s : State} {m : MethodId} {args : Array Value} {below : List Frame} {meth : Method} {c : Code} {D : va_G} {Y : cYt} {ad : Nat → Nat} {mu : Nat → Nat → Int32} (X : cX D Y p s m args meth c cL_hangs 12 RL (some .boolean)) (hI : cInj ad) (hl0 : l.stackTraces = false) (hZ : lZ ad s.heap.size s)  {x1 : Int32} {x3 : Int32} {x4 : Int32} {x5 : Int32} {x7 : Int32} {x8 : Int32} {y0 : Int32} {t : Int32 × (Nat → Nat → Int32)} {kb : Nat} (hkb : 27 ≤ kb) {K158 : Int32 → Int32 → Int32 → Int32 → Int32 → Int32 → (Nat → Nat → Int32) → (Option (Int32 × (Nat → Nat → Int32)))} (hK158 : ∀ (x1 : Int32) (x3 : Int32) (x4 : Int32) (x5 : Int32) (x6 : Int32) (x7 : Int32) (mu : Nat → Nat → Int32) (H : Heap) (locs : List Loc) (cells slots : Nat), cH D Y ad mu s H locs → cells + 3 * (kb) ≤ 960 ∧ slots + 18 * (kb) ≤ 5760 → ∀ (ls : Array Slot), lv_has ls 12 [(0, .ref (ad 150)), (1, .int x1), (3, .int x3), (4, .int x4), (5, .int x5), (6, .int x6), (7, .int x7)] → K158 x1 x3 x4 x5 x6 x7 mu = some t → W p l e rm6_hangs s m args below meth c H locs cells slots (MQ below (va_Qi (fun (r9 : Int32) (_ : Unit) => r9 = t.1) (fun _ t9 => cB D Y ad t.2 t9) (cA ad s.heap.size)) args s 960 5760 (cA ad s.heap.size)) (F0 m 158 ls [])) {H : Heap} {locs : List Loc} (hH : cH D Y ad mu s H locs) {cells slots : Nat} (hc : cells + 3 * (2 + kb) ≤ 960 ∧ slots + 18 * (2 + kb) ≤ 5760) {ls : Array Slot} (hl : lv_has ls 12 [(0, .ref (ad 150)), (1, .int x1), (3, .int x3), (4, .int x4), (5, .int x5), (7, .int x7), (8, .int x8)]) (hf : f6_hangs_634 K158 x1 x3 x4 x5 x7 x8 y0 mu = some t) : W p l e rm6_hangs s m args below meth c H locs cells slots (MQ below (va_Qi (fun (r9 : Int32) (_ : Unit) => r9 = t.1) (fun _ t9 => cB D Y ad t.2 t9) (cA ad s.heap.size)) args s 960 5760 (cA ad s.heap.size)) (F0 m 634 ls [.int y0]) := by
  obtain ⟨⟨hx, hb, hml, hown, hts⟩, hr, hlk, hK⟩ := id X
  replace hf : (Option.bind (f6_carOf_0 mu x7 1) (fun t1 => Option.bind (f6_carOf_0 mu x7 7) (fun t2 => if x8 = 4 then (f6_hangs_672 K158 x1 (x3 + t1) (x4 + t2) y0 x7 1 x5 mu) else (f6_hangs_672 K158 x1 (x3 + t1) (x4 + t2) y0 x7 0 x5 mu)))) = some t := hf
  refine lv_istore (lv' := [(6, .int y0), (0, .ref (ad 150)), (1, .int x1), (3, .int x3), (4, .int x4), (5, .int x5), (7, .int x7), (8, .int x8)]) hx hb dL_hangs_634 hl (by decide) rfl (fun ls hl => ?_)
  refine lv_iload_n hx hb dL_hangs_636 rfl (lv_at hl 3 rfl) ?_
  refine lv_aload_n hx hb dL_hangs_637 rfl (lv_at hl 1 rfl) ?_
  refine lv_iload hx hb dL_hangs_638 (lv_at hl 6 rfl) ?_
  refine lv_iconst (v := 1) hx hb dL_hangs_640 (by decide) ?_
  obtain ⟨t1, ht1, hf⟩ := bd_o hf
  refine kh (MC := 960) (MS := 5760) (As := [.ref (ad 150), .int x7, .int 1]) (rest := [.int x3]) ⟨rfl, rfl⟩ X hZ hH (h6_carOf l hI hl0 _ x7 1 ht1) (vx_cwSW 3 hts qL_134 rfl rfl rfl (by decide +kernel) ⟨Nat.le_of_ble_eq_true rfl, Nat.le_of_ble_eq_true rfl⟩) rfl hl.1 rfl (Nat.le_of_ble_eq_true rfl) dL_hangs_641 ⟨by omega, by omega⟩ (fun H locs hH => ?_)
  refine lv_iadd hx hb dL_hangs_644 ?_
  refine lv_istore_n (lv' := [(3, .int (x3 + t1)), (6, .int y0), (0, .ref (ad 150)), (1, .int x1), (4, .int x4), (5, .int x5), (7, .int x7), (8, .int x8)]) hx hb dL_hangs_645 rfl hl (by decide) rfl (fun ls hl => ?_)
  refine lv_iload hx hb dL_hangs_646 (lv_at hl 4 rfl) ?_
  refine lv_aload_n hx hb dL_hangs_648 rfl (lv_at hl 2 rfl) ?_
  refine lv_iload hx hb dL_hangs_649 (lv_at hl 6 rfl) ?_
  refine lv_bipush (v := 7) hx hb dL_hangs_651 (by decide) ?_
  obtain ⟨t2, ht2, hf⟩ := bd_o hf
  refine kh (MC := 960) (MS := 5760) (As := [.ref (ad 150), .int x7, .int 7]) (rest := [.int x4]) ⟨rfl, rfl⟩ X hZ hH (h6_carOf l hI hl0 _ x7 7 ht2) (vx_cwSW 3 hts qL_134 rfl rfl rfl (by decide +kernel) ⟨Nat.le_of_ble_eq_true rfl, Nat.le_of_ble_eq_true rfl⟩) rfl hl.1 rfl (Nat.le_of_ble_eq_true rfl) dL_hangs_653 ⟨by omega, by omega⟩ (fun H locs hH => ?_)
  refine lv_iadd hx hb dL_hangs_656 ?_
  refine lv_istore (lv' := [(4, .int (x4 + t2)), (3, .int (x3 + t1)), (6, .int y0), (0, .ref (ad 150)), (1, .int x1), (5, .int x5), (7, .int x7), (8, .int x8)]) hx hb dL_hangs_657 hl (by decide) rfl (fun ls hl => ?_)
  refine lv_iload hx hb dL_hangs_659 (lv_at hl 5 rfl) ?_
  refine lv_iload hx hb dL_hangs_661 (lv_at hl 7 rfl) ?_
  refine lv_iconst (v := 4) hx hb dL_hangs_663 (by decide) ?_
  refine lv_icmp_ne (tgt := 671) hx hb dL_hangs_664 (by decide) (fun c3 => ?_) (fun c3 => ?_)
  · have hf := it_f c3 hf
    refine lv_iconst (v := 0) hx hb dL_hangs_671 (by decide) ?_
    exact w6_hangs_672 X hI hl0 hZ (kb := kb) (by omega) (K158 := K158) hK158 hH ⟨by omega, by omega⟩ (lv_sub hl [3, 4, 1, 0, 2, 6] rfl) hf
  · have hf := it_t c3 hf
    refine lv_iconst (v := 1) hx hb dL_hangs_667 (by decide) ?_
    refine lv_goto (tgt := 672) hx hb dL_hangs_668 (by decide) ?_
    exact w6_hangs_672 X hI hl0 hZ (kb := kb) (by omega) (K158 := K158) hK158 hH ⟨by omega, by omega⟩ (lv_sub hl [3, 4, 1, 0, 2, 6] rfl) hf
def f6_hangs_633 (K158 : Int32 → Int32 → Int32 → Int32 → Int32 → Int32 → (Nat → Nat → Int32) → (Option (Int32 × (Nat → Nat → Int32)))) (x1 : Int32) (x3 : Int32) (x4 : Int32) (x5 : Int32) (x7 : Int32) (x8 : Int32) (mu : Nat → Nat → Int32) : Option (Int32 × (Nat → Nat → Int32)) := f6_hangs_634 K158 x1 x3 x4 x5 x7 x8 0 mu
set_option maxRecDepth 100000 in
set_option maxHeartbeats 4000000 in
theorem w6_hangs_633 {p : Program} {l : Launch} {e : Env} {s : State} {m : MethodId} {args : Array Value} {below : List Frame} {meth : Method} {c : Code} {D : va_G} {Y : cYt} {ad : Nat → Nat} {mu : Nat → Nat → Int32} (X : cX D Y p s m args meth c cL_hangs 12 RL (some .boolean)) (hI : cInj ad) (hl0 : l.stackTraces = false) (hZ : lZ ad s.heap.size s)  {x1 : Int32} {x3 : Int32} {x4 : Int32} {x5 : Int32} {x7 : Int32} {x8 : Int32} {t : Int32 × (Nat → Nat → Int32)} {kb : Nat} (hkb : 27 ≤ kb) {K158 : Int32 → Int32 → Int32 → Int32 → Int32 → Int32 → (Nat → Nat → Int32) → (Option (Int32 × (Nat → Nat → Int32)))} (hK158 : ∀ (x1 : Int32) (x3 : Int32) (x4 : Int32) (x5 : Int32) (x6 : Int32) (x7 : Int32) (mu : Nat → Nat → Int32) (H : Heap) (locs : List Loc) (cells slots : Nat), cH D Y ad mu s H locs → cells + 3 * (kb) ≤ 960 ∧ slots + 18 * (kb) ≤ 5760 → ∀ (ls : Array Slot), lv_has ls 12 [(0, .ref (ad 150)), (1, .int x1), (3, .int x3), (4, .int x4), (5, .int x5), (6, .int x6), (7, .int x7)] → K158 x1 x3 x4 x5 x6 x7 mu = some t → W p l e rm6_hangs s m args below meth c H locs cells slots (MQ below (va_Qi (fun (r9 : Int32) (_ : Unit) => r9 = t.1) (fun _ t9 => cB D Y ad t.2 t9) (cA ad s.heap.size)) args s 960 5760 (cA ad s.heap.size)) (F0 m 158 ls [])) {H : Heap} {locs : List Loc} (hH : cH D Y ad mu s H locs) {cells slots : Nat} (hc : cells + 3 * (2 + kb) ≤ 960 ∧ slots + 18 * (2 + kb) ≤ 5760) {ls : Array Slot} (hl : lv_has ls 12 [(0, .ref (ad 150)), (1, .int x1), (3, .int x3), (4, .int x4), (5, .int x5), (7, .int x7), (8, .int x8)]) (hf : f6_hangs_633 K158 x1 x3 x4 x5 x7 x8 mu = some t) : W p l e rm6_hangs s m args below meth c H locs cells slots (MQ below (va_Qi (fun (r9 : Int32) (_ : Unit) => r9 = t.1) (fun _ t9 => cB D Y ad t.2 t9) (cA ad s.heap.size)) args s 960 5760 (cA ad s.heap.size)) (F0 m 633 ls []) := by
  obtain ⟨⟨hx, hb, hml, hown, hts⟩, hr, hlk, hK⟩ := id X
  replace hf : (f6_hangs_634 K158 x1 x3 x4 x5 x7 x8 0 mu) = some t := hf
  refine lv_iconst (v := 0) hx hb dL_hangs_633 (by decide) ?_
  exact w6_hangs_634 X hI hl0 hZ (kb := kb) (by omega) (K158 := K158) hK158 hH ⟨by omega, by omega⟩ (lv_sub hl [0, 1, 2, 3, 4, 5, 6] rfl) hf
def f6_hangs_626 (K158 : Int32 → Int32 → Int32 → Int32 → Int32 → Int32 → (Nat → Nat → Int32) → (Option (Int32 × (Nat → Nat → Int32)))) (x1 : Int32) (x3 : Int32) (x4 : Int32) (x5 : Int32) (x7 : Int32) (x8 : Int32) (y0 : Int32) (y1 : Int32) (mu : Nat → Nat → Int32) : Option (Int32 × (Nat → Nat → Int32)) := if y1 = y0 then (f6_hangs_634 K158 x1 x3 x4 x5 x7 x8 1 mu) else (f6_hangs_633 K158 x1 x3 x4 x5 x7 x8 mu)
set_option maxRecDepth 100000 in
set_option maxHeartbeats 4000000 in
theorem w6_hangs_626 {p : Program} {l : Launch} {e : Env} {s : State} {m : MethodId} {args : Array Value} {below : List Frame} {meth : Method} {c : Code} {D : va_G} {Y : cYt} {ad : Nat → Nat} {mu : Nat → Nat → Int32} (X : cX D Y p s m args meth c cL_hangs 12 RL (some .boolean)) (hI : cInj ad) (hl0 : l.stackTraces = false) (hZ : lZ ad s.heap.size s)  {x1 : Int32} {x3 : Int32} {x4 : Int32} {x5 : Int32} {x7 : Int32} {x8 : Int32} {y0 : Int32} {y1 : Int32} {t : Int32 × (Nat → Nat → Int32)} {kb : Nat} (hkb : 27 ≤ kb) {K158 : Int32 → Int32 → Int32 → Int32 → Int32 → Int32 → (Nat → Nat → Int32) → (Option (Int32 × (Nat → Nat → Int32)))} (hK158 : ∀ (x1 : Int32) (x3 : Int32) (x4 : Int32) (x5 : Int32) (x6 : Int32) (x7 : Int32) (mu : Nat → Nat → Int32) (H : Heap) (locs : List Loc) (cells slots : Nat), cH D Y ad mu s H locs → cells + 3 * (kb) ≤ 960 ∧ slots + 18 * (kb) ≤ 5760 → ∀ (ls : Array Slot), lv_has ls 12 [(0, .ref (ad 150)), (1, .int x1), (3, .int x3), (4, .int x4), (5, .int x5), (6, .int x6), (7, .int x7)] → K158 x1 x3 x4 x5 x6 x7 mu = some t → W p l e rm6_hangs s m args below meth c H locs cells slots (MQ below (va_Qi (fun (r9 : Int32) (_ : Unit) => r9 = t.1) (fun _ t9 => cB D Y ad t.2 t9) (cA ad s.heap.size)) args s 960 5760 (cA ad s.heap.size)) (F0 m 158 ls [])) {H : Heap} {locs : List Loc} (hH : cH D Y ad mu s H locs) {cells slots : Nat} (hc : cells + 3 * (2 + kb) ≤ 960 ∧ slots + 18 * (2 + kb) ≤ 5760) {ls : Array Slot} (hl : lv_has ls 12 [(0, .ref (ad 150)), (1, .int x1), (3, .int x3), (4, .int x4), (5, .int x5), (7, .int x7), (8, .int x8)]) (hf : f6_hangs_626 K158 x1 x3 x4 x5 x7 x8 y0 y1 mu = some t) : W p l e rm6_hangs s m args below meth c H locs cells slots (MQ below (va_Qi (fun (r9 : Int32) (_ : Unit) => r9 = t.1) (fun _ t9 => cB D Y ad t.2 t9) (cA ad s.heap.size)) args s 960 5760 (cA ad s.heap.size)) (F0 m 626 ls [.int y0, .int y1]) := by
  obtain ⟨⟨hx, hb, hml, hown, hts⟩, hr, hlk, hK⟩ := id X
  replace hf : (if y1 = y0 then (f6_hangs_634 K158 x1 x3 x4 x5 x7 x8 1 mu) else (f6_hangs_633 K158 x1 x3 x4 x5 x7 x8 mu)) = some t := hf
  refine lv_icmp_ne (tgt := 633) hx hb dL_hangs_626 (by decide) (fun c1 => ?_) (fun c1 => ?_)
  · have hf := it_f c1 hf
    exact w6_hangs_633 X hI hl0 hZ (kb := kb) (by omega) (K158 := K158) hK158 hH ⟨by omega, by omega⟩ (lv_sub hl [0, 1, 2, 3, 4, 5, 6] rfl) hf
  · have hf := it_t c1 hf
    refine lv_iconst (v := 1) hx hb dL_hangs_629 (by decide) ?_
    refine lv_goto (tgt := 634) hx hb dL_hangs_630 (by decide) ?_
    exact w6_hangs_634 X hI hl0 hZ (kb := kb) (by omega) (K158 := K158) hK158 hH ⟨by omega, by omega⟩ (lv_sub hl [0, 1, 2, 3, 4, 5, 6] rfl) hf
def f6_hangs_621 (K158 : Int32 → Int32 → Int32 → Int32 → Int32 → Int32 → (Nat → Nat → Int32) → (Option (Int32 × (Nat → Nat → Int32)))) (x1 : Int32) (x3 : Int32) (x4 : Int32) (x5 : Int32) (x7 : Int32) (x8 : Int32) (y0 : Int32) (mu : Nat → Nat → Int32) : Option (Int32 × (Nat → Nat → Int32)) := f6_hangs_626 K158 x1 x3 x4 x5 x7 x8 1 y0 mu
set_option maxRecDepth 100000 in
set_option maxHeartbeats 4000000 in
theorem w6_hangs_621 {p : Program} {l : Launch} {e : Env} {s : State} {m : MethodId} {args : Array Value} {below : List Frame} {meth : Method} {c : Code} {D : va_G} {Y : cYt} {ad : Nat → Nat} {mu : Nat → Nat → Int32} (X : cX D Y p s m args meth c cL_hangs 12 RL (some .boolean)) (hI : cInj ad) (hl0 : l.stackTraces = false) (hZ : lZ ad s.heap.size s)  {x1 : Int32} {x3 : Int32} {x4 : Int32} {x5 : Int32} {x7 : Int32} {x8 : Int32} {y0 : Int32} {t : Int32 × (Nat → Nat → Int32)} {kb : Nat} (hkb : 27 ≤ kb) {K158 : Int32 → Int32 → Int32 → Int32 → Int32 → Int32 → (Nat → Nat → Int32) → (Option (Int32 × (Nat → Nat → Int32)))} (hK158 : ∀ (x1 : Int32) (x3 : Int32) (x4 : Int32) (x5 : Int32) (x6 : Int32) (x7 : Int32) (mu : Nat → Nat → Int32) (H : Heap) (locs : List Loc) (cells slots : Nat), cH D Y ad mu s H locs → cells + 3 * (kb) ≤ 960 ∧ slots + 18 * (kb) ≤ 5760 → ∀ (ls : Array Slot), lv_has ls 12 [(0, .ref (ad 150)), (1, .int x1), (3, .int x3), (4, .int x4), (5, .int x5), (6, .int x6), (7, .int x7)] → K158 x1 x3 x4 x5 x6 x7 mu = some t → W p l e rm6_hangs s m args below meth c H locs cells slots (MQ below (va_Qi (fun (r9 : Int32) (_ : Unit) => r9 = t.1) (fun _ t9 => cB D Y ad t.2 t9) (cA ad s.heap.size)) args s 960 5760 (cA ad s.heap.size)) (F0 m 158 ls [])) {H : Heap} {locs : List Loc} (hH : cH D Y ad mu s H locs) {cells slots : Nat} (hc : cells + 3 * (2 + kb) ≤ 960 ∧ slots + 18 * (2 + kb) ≤ 5760) {ls : Array Slot} (hl : lv_has ls 12 [(0, .ref (ad 150)), (1, .int x1), (3, .int x3), (4, .int x4), (5, .int x5), (7, .int x7), (8, .int x8)]) (hf : f6_hangs_621 K158 x1 x3 x4 x5 x7 x8 y0 mu = some t) : W p l e rm6_hangs s m args below meth c H locs cells slots (MQ below (va_Qi (fun (r9 : Int32) (_ : Unit) => r9 = t.1) (fun _ t9 => cB D Y ad t.2 t9) (cA ad s.heap.size)) args s 960 5760 (cA ad s.heap.size)) (F0 m 621 ls [.int y0]) := by
  obtain ⟨⟨hx, hb, hml, hown, hts⟩, hr, hlk, hK⟩ := id X
  replace hf : (f6_hangs_626 K158 x1 x3 x4 x5 x7 x8 1 y0 mu) = some t := hf
  refine lv_iconst (v := 1) hx hb dL_hangs_621 (by decide) ?_
  refine lv_goto (tgt := 626) hx hb dL_hangs_622 (by decide) ?_
  exact w6_hangs_626 X hI hl0 hZ (kb := kb) (by omega) (K158 := K158) hK158 hH ⟨by omega, by omega⟩ (lv_sub hl [0, 1, 2, 3, 4, 5, 6] rfl) hf
def f6_hangs_609 (K158 : Int32 → Int32 → Int32 → Int32 → Int32 → Int32 → (Nat → Nat → Int32) → (Option (Int32 × (Nat → Nat → Int32)))) (x1 : Int32) (x3 : Int32) (x4 : Int32) (x5 : Int32) (x7 : Int32) (x8 : Int32) (y0 : Int32) (mu : Nat → Nat → Int32) : Option (Int32 × (Nat → Nat → Int32)) := if x8 = 2 then (f6_hangs_621 K158 x1 x3 x4 x5 x7 x8 y0 mu) else (if x8 = 3 then (f6_hangs_621 K158 x1 x3 x4 x5 x7 x8 y0 mu) else (f6_hangs_626 K158 x1 x3 x4 x5 x7 x8 0 y0 mu))
set_option maxRecDepth 100000 in
set_option maxHeartbeats 4000000 in
theorem w6_hangs_609 {p : Program} {l : Launch} {e : Env} {s : State} {m : MethodId} {args : Array Value} {below : List Frame} {meth : Method} {c : Code} {D : va_G} {Y : cYt} {ad : Nat → Nat} {mu : Nat → Nat → Int32} (X : cX D Y p s m args meth c cL_hangs 12 RL (some .boolean)) (hI : cInj ad) (hl0 : l.stackTraces = false) (hZ : lZ ad s.heap.size s)  {x1 : Int32} {x3 : Int32} {x4 : Int32} {x5 : Int32} {x7 : Int32} {x8 : Int32} {y0 : Int32} {t : Int32 × (Nat → Nat → Int32)} {kb : Nat} (hkb : 27 ≤ kb) {K158 : Int32 → Int32 → Int32 → Int32 → Int32 → Int32 → (Nat → Nat → Int32) → (Option (Int32 × (Nat → Nat → Int32)))} (hK158 : ∀ (x1 : Int32) (x3 : Int32) (x4 : Int32) (x5 : Int32) (x6 : Int32) (x7 : Int32) (mu : Nat → Nat → Int32) (H : Heap) (locs : List Loc) (cells slots : Nat), cH D Y ad mu s H locs → cells + 3 * (kb) ≤ 960 ∧ slots + 18 * (kb) ≤ 5760 → ∀ (ls : Array Slot), lv_has ls 12 [(0, .ref (ad 150)), (1, .int x1), (3, .int x3), (4, .int x4), (5, .int x5), (6, .int x6), (7, .int x7)] → K158 x1 x3 x4 x5 x6 x7 mu = some t → W p l e rm6_hangs s m args below meth c H locs cells slots (MQ below (va_Qi (fun (r9 : Int32) (_ : Unit) => r9 = t.1) (fun _ t9 => cB D Y ad t.2 t9) (cA ad s.heap.size)) args s 960 5760 (cA ad s.heap.size)) (F0 m 158 ls [])) {H : Heap} {locs : List Loc} (hH : cH D Y ad mu s H locs) {cells slots : Nat} (hc : cells + 3 * (2 + kb) ≤ 960 ∧ slots + 18 * (2 + kb) ≤ 5760) {ls : Array Slot} (hl : lv_has ls 12 [(0, .ref (ad 150)), (1, .int x1), (3, .int x3), (4, .int x4), (5, .int x5), (7, .int x7), (8, .int x8)]) (hf : f6_hangs_609 K158 x1 x3 x4 x5 x7 x8 y0 mu = some t) : W p l e rm6_hangs s m args below meth c H locs cells slots (MQ below (va_Qi (fun (r9 : Int32) (_ : Unit) => r9 = t.1) (fun _ t9 => cB D Y ad t.2 t9) (cA ad s.heap.size)) args s 960 5760 (cA ad s.heap.size)) (F0 m 609 ls [.int y0]) := by
  obtain ⟨⟨hx, hb, hml, hown, hts⟩, hr, hlk, hK⟩ := id X
  replace hf : (if x8 = 2 then (f6_hangs_621 K158 x1 x3 x4 x5 x7 x8 y0 mu) else (if x8 = 3 then (f6_hangs_621 K158 x1 x3 x4 x5 x7 x8 y0 mu) else (f6_hangs_626 K158 x1 x3 x4 x5 x7 x8 0 y0 mu))) = some t := hf
  refine lv_iload hx hb dL_hangs_609 (lv_at hl 6 rfl) ?_
  refine lv_iconst (v := 2) hx hb dL_hangs_611 (by decide) ?_
  refine lv_icmp_eq (tgt := 621) hx hb dL_hangs_612 (by decide) (fun c1 => ?_) (fun c1 => ?_)
  · have hf := it_t c1 hf
    exact w6_hangs_621 X hI hl0 hZ (kb := kb) (by omega) (K158 := K158) hK158 hH ⟨by omega, by omega⟩ (lv_sub hl [0, 1, 2, 3, 4, 5, 6] rfl) hf
  · have hf := it_f c1 hf
    refine lv_iload hx hb dL_hangs_615 (lv_at hl 6 rfl) ?_
    refine lv_iconst (v := 3) hx hb dL_hangs_617 (by decide) ?_
    refine lv_icmp_ne (tgt := 625) hx hb dL_hangs_618 (by decide) (fun c2 => ?_) (fun c2 => ?_)
    · have hf := it_f c2 hf
      refine lv_iconst (v := 0) hx hb dL_hangs_625 (by decide) ?_
      exact w6_hangs_626 X hI hl0 hZ (kb := kb) (by omega) (K158 := K158) hK158 hH ⟨by omega, by omega⟩ (lv_sub hl [0, 1, 2, 3, 4, 5, 6] rfl) hf
    · have hf := it_t c2 hf
      exact w6_hangs_621 X hI hl0 hZ (kb := kb) (by omega) (K158 := K158) hK158 hH ⟨by omega, by omega⟩ (lv_sub hl [0, 1, 2, 3, 4, 5, 6] rfl) hf
def f6_hangs_590 (K158 : Int32 → Int32 → Int32 → Int32 → Int32 → Int32 → (Nat → Nat → Int32) → (Option (Int32 × (Nat → Nat → Int32)))) (x1 : Int32) (x3 : Int32) (x4 : Int32) (x5 : Int32) (x7 : Int32) (x8 : Int32) (y0 : Int32) (y1 : Int32) (mu : Nat → Nat → Int32) : Option (Int32 × (Nat → Nat → Int32)) := if y1 = y0 then (Option.bind (f6_refusal_0 mu x7 0) (fun t2 => if t2 = 1 then (f6_hangs_609 K158 x1 x3 x4 x5 x7 x8 0 mu) else (f6_hangs_609 K158 x1 x3 x4 x5 x7 x8 1 mu))) else (f6_hangs_633 K158 x1 x3 x4 x5 x7 x8 mu)
set_option maxRecDepth 100000 in
set_option maxHeartbeats 4000000 in
theorem w6_hangs_590 {p : Program} {l : Launch} {e : Env} {s : State} {m : MethodId} {args : Array Value} {below : List Frame} {meth : Method} {c : Code} {D : va_G} {Y : cYt} {ad : Nat → Nat} {mu : Nat → Nat → Int32} (X : cX D Y p s m args meth c cL_hangs 12 RL (some .boolean)) (hI : cInj ad) (hl0 : l.stackTraces = false) (hZ : lZ ad s.heap.size s)  {x1 : Int32} {x3 : Int32} {x4 : Int32} {x5 : Int32} {x7 : Int32} {x8 : Int32} {y0 : Int32} {y1 : Int32} {t : Int32 × (Nat → Nat → Int32)} {kb : Nat} (hkb : 27 ≤ kb) {K158 : Int32 → Int32 → Int32 → Int32 → Int32 → Int32 → (Nat → Nat → Int32) → (Option (Int32 × (Nat → Nat → Int32)))} (hK158 : ∀ (x1 : Int32) (x3 : Int32) (x4 : Int32) (x5 : Int32) (x6 : Int32) (x7 : Int32) (mu : Nat → Nat → Int32) (H : Heap) (locs : List Loc) (cells slots : Nat), cH D Y ad mu s H locs → cells + 3 * (kb) ≤ 960 ∧ slots + 18 * (kb) ≤ 5760 → ∀ (ls : Array Slot), lv_has ls 12 [(0, .ref (ad 150)), (1, .int x1), (3, .int x3), (4, .int x4), (5, .int x5), (6, .int x6), (7, .int x7)] → K158 x1 x3 x4 x5 x6 x7 mu = some t → W p l e rm6_hangs s m args below meth c H locs cells slots (MQ below (va_Qi (fun (r9 : Int32) (_ : Unit) => r9 = t.1) (fun _ t9 => cB D Y ad t.2 t9) (cA ad s.heap.size)) args s 960 5760 (cA ad s.heap.size)) (F0 m 158 ls [])) {H : Heap} {locs : List Loc} (hH : cH D Y ad mu s H locs) {cells slots : Nat} (hc : cells + 3 * (3 + kb) ≤ 960 ∧ slots + 18 * (3 + kb) ≤ 5760) {ls : Array Slot} (hl : lv_has ls 12 [(0, .ref (ad 150)), (1, .int x1), (3, .int x3), (4, .int x4), (5, .int x5), (7, .int x7), (8, .int x8)]) (hf : f6_hangs_590 K158 x1 x3 x4 x5 x7 x8 y0 y1 mu = some t) : W p l e rm6_hangs s m args below meth c H locs cells slots (MQ below (va_Qi (fun (r9 : Int32) (_ : Unit) => r9 = t.1) (fun _ t9 => cB D Y ad t.2 t9) (cA ad s.heap.size)) args s 960 5760 (cA ad s.heap.size)) (F0 m 590 ls [.int y0, .int y1]) := by
  obtain ⟨⟨hx, hb, hml, hown, hts⟩, hr, hlk, hK⟩ := id X
  replace hf : (if y1 = y0 then (Option.bind (f6_refusal_0 mu x7 0) (fun t2 => if t2 = 1 then (f6_hangs_609 K158 x1 x3 x4 x5 x7 x8 0 mu) else (f6_hangs_609 K158 x1 x3 x4 x5 x7 x8 1 mu))) else (f6_hangs_633 K158 x1 x3 x4 x5 x7 x8 mu)) = some t := hf
  refine lv_icmp_ne (tgt := 633) hx hb dL_hangs_590 (by decide) (fun c1 => ?_) (fun c1 => ?_)
  · have hf := it_f c1 hf
    exact w6_hangs_633 X hI hl0 hZ (kb := kb) (by omega) (K158 := K158) hK158 hH ⟨by omega, by omega⟩ (lv_sub hl [0, 1, 2, 3, 4, 5, 6] rfl) hf
  · have hf := it_t c1 hf
    refine lv_aload_n hx hb dL_hangs_593 rfl (lv_at hl 0 rfl) ?_
    refine lv_iload hx hb dL_hangs_594 (lv_at hl 5 rfl) ?_
    refine lv_iconst (v := 0) hx hb dL_hangs_596 (by decide) ?_
    obtain ⟨t2, ht2, hf⟩ := bd_o hf
    refine kh (MC := 960) (MS := 5760) (As := [.ref (ad 150), .int x7, .int 0]) (rest := []) ⟨rfl, rfl⟩ X hZ hH (h6_refusal l hI hl0 _ x7 0 ht2) (vx_cwSW 3 hts qL_138 rfl rfl rfl (by decide +kernel) ⟨Nat.le_of_ble_eq_true rfl, Nat.le_of_ble_eq_true rfl⟩) rfl hl.1 rfl (Nat.le_of_ble_eq_true rfl) dL_hangs_597 ⟨by omega, by omega⟩ (fun H locs hH => ?_)
    refine lv_iconst (v := 1) hx hb dL_hangs_600 (by decide) ?_
    refine lv_icmp_eq (tgt := 608) hx hb dL_hangs_601 (by decide) (fun c3 => ?_) (fun c3 => ?_)
    · have hf := it_t c3 hf
      refine lv_iconst (v := 0) hx hb dL_hangs_608 (by decide) ?_
      exact w6_hangs_609 X hI hl0 hZ (kb := kb) (by omega) (K158 := K158) hK158 hH ⟨by omega, by omega⟩ (lv_sub hl [0, 1, 2, 3, 4, 5, 6] rfl) hf
    · have hf := it_f c3 hf
      refine lv_iconst (v := 1) hx hb dL_hangs_604 (by decide) ?_
      refine lv_goto (tgt := 609) hx hb dL_hangs_605 (by decide) ?_
      exact w6_hangs_609 X hI hl0 hZ (kb := kb) (by omega) (K158 := K158) hK158 hH ⟨by omega, by omega⟩ (lv_sub hl [0, 1, 2, 3, 4, 5, 6] rfl) hf
def f6_hangs_580 (K158 : Int32 → Int32 → Int32 → Int32 → Int32 → Int32 → (Nat → Nat → Int32) → (Option (Int32 × (Nat → Nat → Int32)))) (x1 : Int32) (x3 : Int32) (x4 : Int32) (x5 : Int32) (x7 : Int32) (x8 : Int32) (y0 : Int32) (mu : Nat → Nat → Int32) : Option (Int32 × (Nat → Nat → Int32)) := if x8 = 0 then (f6_hangs_590 K158 x1 x3 x4 x5 x7 x8 1 y0 mu) else (f6_hangs_590 K158 x1 x3 x4 x5 x7 x8 0 y0 mu)
set_option maxRecDepth 100000 in
set_option maxHeartbeats 4000000 in
theorem w6_hangs_580 {p : Program} {l : Launch} {e : Env} {s : State} {m : MethodId} {args : Array Value} {below : List Frame} {meth : Method} {c : Code} {D : va_G} {Y : cYt} {ad : Nat → Nat} {mu : Nat → Nat → Int32} (X : cX D Y p s m args meth c cL_hangs 12 RL (some .boolean)) (hI : cInj ad) (hl0 : l.stackTraces = false) (hZ : lZ ad s.heap.size s)  {x1 : Int32} {x3 : Int32} {x4 : Int32} {x5 : Int32} {x7 : Int32} {x8 : Int32} {y0 : Int32} {t : Int32 × (Nat → Nat → Int32)} {kb : Nat} (hkb : 27 ≤ kb) {K158 : Int32 → Int32 → Int32 → Int32 → Int32 → Int32 → (Nat → Nat → Int32) → (Option (Int32 × (Nat → Nat → Int32)))} (hK158 : ∀ (x1 : Int32) (x3 : Int32) (x4 : Int32) (x5 : Int32) (x6 : Int32) (x7 : Int32) (mu : Nat → Nat → Int32) (H : Heap) (locs : List Loc) (cells slots : Nat), cH D Y ad mu s H locs → cells + 3 * (kb) ≤ 960 ∧ slots + 18 * (kb) ≤ 5760 → ∀ (ls : Array Slot), lv_has ls 12 [(0, .ref (ad 150)), (1, .int x1), (3, .int x3), (4, .int x4), (5, .int x5), (6, .int x6), (7, .int x7)] → K158 x1 x3 x4 x5 x6 x7 mu = some t → W p l e rm6_hangs s m args below meth c H locs cells slots (MQ below (va_Qi (fun (r9 : Int32) (_ : Unit) => r9 = t.1) (fun _ t9 => cB D Y ad t.2 t9) (cA ad s.heap.size)) args s 960 5760 (cA ad s.heap.size)) (F0 m 158 ls [])) {H : Heap} {locs : List Loc} (hH : cH D Y ad mu s H locs) {cells slots : Nat} (hc : cells + 3 * (3 + kb) ≤ 960 ∧ slots + 18 * (3 + kb) ≤ 5760) {ls : Array Slot} (hl : lv_has ls 12 [(0, .ref (ad 150)), (1, .int x1), (3, .int x3), (4, .int x4), (5, .int x5), (7, .int x7), (8, .int x8)]) (hf : f6_hangs_580 K158 x1 x3 x4 x5 x7 x8 y0 mu = some t) : W p l e rm6_hangs s m args below meth c H locs cells slots (MQ below (va_Qi (fun (r9 : Int32) (_ : Unit) => r9 = t.1) (fun _ t9 => cB D Y ad t.2 t9) (cA ad s.heap.size)) args s 960 5760 (cA ad s.heap.size)) (F0 m 580 ls [.int y0]) := by
  obtain ⟨⟨hx, hb, hml, hown, hts⟩, hr, hlk, hK⟩ := id X
  replace hf : (if x8 = 0 then (f6_hangs_590 K158 x1 x3 x4 x5 x7 x8 1 y0 mu) else (f6_hangs_590 K158 x1 x3 x4 x5 x7 x8 0 y0 mu)) = some t := hf
  refine lv_iload hx hb dL_hangs_580 (lv_at hl 6 rfl) ?_
  refine lv_if_ne (tgt := 589) hx hb dL_hangs_582 (by decide) (fun c1 => ?_) (fun c1 => ?_)
  · have hf := it_f c1 hf
    refine lv_iconst (v := 0) hx hb dL_hangs_589 (by decide) ?_
    exact w6_hangs_590 X hI hl0 hZ (kb := kb) (by omega) (K158 := K158) hK158 hH ⟨by omega, by omega⟩ (lv_sub hl [0, 1, 2, 3, 4, 5, 6] rfl) hf
  · have hf := it_t c1 hf
    refine lv_iconst (v := 1) hx hb dL_hangs_585 (by decide) ?_
    refine lv_goto (tgt := 590) hx hb dL_hangs_586 (by decide) ?_
    exact w6_hangs_590 X hI hl0 hZ (kb := kb) (by omega) (K158 := K158) hK158 hH ⟨by omega, by omega⟩ (lv_sub hl [0, 1, 2, 3, 4, 5, 6] rfl) hf
def f6_hangs_564 (K158 : Int32 → Int32 → Int32 → Int32 → Int32 → Int32 → (Nat → Nat → Int32) → (Option (Int32 × (Nat → Nat → Int32)))) (x1 : Int32) (x3 : Int32) (x4 : Int32) (x5 : Int32) (x7 : Int32) (x8 : Int32) (mu : Nat → Nat → Int32) : Option (Int32 × (Nat → Nat → Int32)) := Option.bind (f6_refusal_0 mu x7 1) (fun t1 => if t1 = 1 then (f6_hangs_580 K158 x1 x3 x4 x5 x7 x8 0 mu) else (f6_hangs_580 K158 x1 x3 x4 x5 x7 x8 1 mu))
set_option maxRecDepth 100000 in
set_option maxHeartbeats 4000000 in
theorem w6_hangs_564 {p : Program} {l : Launch} {e : Env} {s : State} {m : MethodId} {args : Array Value} {below : List Frame} {meth : Method} {c : Code} {D : va_G} {Y : cYt} {ad : Nat → Nat} {mu : Nat → Nat → Int32} (X : cX D Y p s m args meth c cL_hangs 12 RL (some .boolean)) (hI : cInj ad) (hl0 : l.stackTraces = false) (hZ : lZ ad s.heap.size s)  {x1 : Int32} {x3 : Int32} {x4 : Int32} {x5 : Int32} {x7 : Int32} {x8 : Int32} {t : Int32 × (Nat → Nat → Int32)} {kb : Nat} (hkb : 27 ≤ kb) {K158 : Int32 → Int32 → Int32 → Int32 → Int32 → Int32 → (Nat → Nat → Int32) → (Option (Int32 × (Nat → Nat → Int32)))} (hK158 : ∀ (x1 : Int32) (x3 : Int32) (x4 : Int32) (x5 : Int32) (x6 : Int32) (x7 : Int32) (mu : Nat → Nat → Int32) (H : Heap) (locs : List Loc) (cells slots : Nat), cH D Y ad mu s H locs → cells + 3 * (kb) ≤ 960 ∧ slots + 18 * (kb) ≤ 5760 → ∀ (ls : Array Slot), lv_has ls 12 [(0, .ref (ad 150)), (1, .int x1), (3, .int x3), (4, .int x4), (5, .int x5), (6, .int x6), (7, .int x7)] → K158 x1 x3 x4 x5 x6 x7 mu = some t → W p l e rm6_hangs s m args below meth c H locs cells slots (MQ below (va_Qi (fun (r9 : Int32) (_ : Unit) => r9 = t.1) (fun _ t9 => cB D Y ad t.2 t9) (cA ad s.heap.size)) args s 960 5760 (cA ad s.heap.size)) (F0 m 158 ls [])) {H : Heap} {locs : List Loc} (hH : cH D Y ad mu s H locs) {cells slots : Nat} (hc : cells + 3 * (4 + kb) ≤ 960 ∧ slots + 18 * (4 + kb) ≤ 5760) {ls : Array Slot} (hl : lv_has ls 12 [(0, .ref (ad 150)), (1, .int x1), (3, .int x3), (4, .int x4), (5, .int x5), (7, .int x7), (8, .int x8)]) (hf : f6_hangs_564 K158 x1 x3 x4 x5 x7 x8 mu = some t) : W p l e rm6_hangs s m args below meth c H locs cells slots (MQ below (va_Qi (fun (r9 : Int32) (_ : Unit) => r9 = t.1) (fun _ t9 => cB D Y ad t.2 t9) (cA ad s.heap.size)) args s 960 5760 (cA ad s.heap.size)) (F0 m 564 ls []) := by
  obtain ⟨⟨hx, hb, hml, hown, hts⟩, hr, hlk, hK⟩ := id X
  replace hf : (Option.bind (f6_refusal_0 mu x7 1) (fun t1 => if t1 = 1 then (f6_hangs_580 K158 x1 x3 x4 x5 x7 x8 0 mu) else (f6_hangs_580 K158 x1 x3 x4 x5 x7 x8 1 mu))) = some t := hf
  refine lv_aload_n hx hb dL_hangs_564 rfl (lv_at hl 0 rfl) ?_
  refine lv_iload hx hb dL_hangs_565 (lv_at hl 5 rfl) ?_
  refine lv_iconst (v := 1) hx hb dL_hangs_567 (by decide) ?_
  obtain ⟨t1, ht1, hf⟩ := bd_o hf
  refine kh (MC := 960) (MS := 5760) (As := [.ref (ad 150), .int x7, .int 1]) (rest := []) ⟨rfl, rfl⟩ X hZ hH (h6_refusal l hI hl0 _ x7 1 ht1) (vx_cwSW 3 hts qL_138 rfl rfl rfl (by decide +kernel) ⟨Nat.le_of_ble_eq_true rfl, Nat.le_of_ble_eq_true rfl⟩) rfl hl.1 rfl (Nat.le_of_ble_eq_true rfl) dL_hangs_568 ⟨by omega, by omega⟩ (fun H locs hH => ?_)
  refine lv_iconst (v := 1) hx hb dL_hangs_571 (by decide) ?_
  refine lv_icmp_eq (tgt := 579) hx hb dL_hangs_572 (by decide) (fun c2 => ?_) (fun c2 => ?_)
  · have hf := it_t c2 hf
    refine lv_iconst (v := 0) hx hb dL_hangs_579 (by decide) ?_
    exact w6_hangs_580 X hI hl0 hZ (kb := kb) (by omega) (K158 := K158) hK158 hH ⟨by omega, by omega⟩ (lv_sub hl [0, 1, 2, 3, 4, 5, 6] rfl) hf
  · have hf := it_f c2 hf
    refine lv_iconst (v := 1) hx hb dL_hangs_575 (by decide) ?_
    refine lv_goto (tgt := 580) hx hb dL_hangs_576 (by decide) ?_
    exact w6_hangs_580 X hI hl0 hZ (kb := kb) (by omega) (K158 := K158) hK158 hH ⟨by omega, by omega⟩ (lv_sub hl [0, 1, 2, 3, 4, 5, 6] rfl) hf
def f6_hangs_532 (K158 : Int32 → Int32 → Int32 → Int32 → Int32 → Int32 → (Nat → Nat → Int32) → (Option (Int32 × (Nat → Nat → Int32)))) (x1 : Int32) (x3 : Int32) (x4 : Int32) (x5 : Int32) (x7 : Int32) (x8 : Int32) (x9 : Int32) (y0 : Int32) (mu : Nat → Nat → Int32) : Option (Int32 × (Nat → Nat → Int32)) := if y0 = 0 then (f6_hangs_633 K158 x1 x3 x4 x5 x7 x8 mu) else (if x8 = 1 then (Option.bind (f6_section_0 mu (x9 / 10) 2) (fun t3 => if ((t3 >>> (x7 &&& 31)) &&& 1) = 1 then (f6_hangs_564 K158 x1 x3 x4 x5 x7 x8 mu) else (f6_hangs_633 K158 x1 x3 x4 x5 x7 x8 mu))) else (f6_hangs_564 K158 x1 x3 x4 x5 x7 x8 mu))
set_option maxRecDepth 100000 in
set_option maxHeartbeats 4000000 in
theorem w6_hangs_532 {p : Program} {l : Launch} {e : Env} {s : State} {m : MethodId} {args : Array Value} {below : List Frame} {meth : Method} {c : Code} {D : va_G} {Y : cYt} {ad : Nat → Nat} {mu : Nat → Nat → Int32} (X : cX D Y p s m args meth c cL_hangs 12 RL (some .boolean)) (hI : cInj ad) (hl0 : l.stackTraces = false) (hZ : lZ ad s.heap.size s)  {x1 : Int32} {x3 : Int32} {x4 : Int32} {x5 : Int32} {x7 : Int32} {x8 : Int32} {x9 : Int32} {y0 : Int32} {t : Int32 × (Nat → Nat → Int32)} {kb : Nat} (hkb : 27 ≤ kb) {K158 : Int32 → Int32 → Int32 → Int32 → Int32 → Int32 → (Nat → Nat → Int32) → (Option (Int32 × (Nat → Nat → Int32)))} (hK158 : ∀ (x1 : Int32) (x3 : Int32) (x4 : Int32) (x5 : Int32) (x6 : Int32) (x7 : Int32) (mu : Nat → Nat → Int32) (H : Heap) (locs : List Loc) (cells slots : Nat), cH D Y ad mu s H locs → cells + 3 * (kb) ≤ 960 ∧ slots + 18 * (kb) ≤ 5760 → ∀ (ls : Array Slot), lv_has ls 12 [(0, .ref (ad 150)), (1, .int x1), (3, .int x3), (4, .int x4), (5, .int x5), (6, .int x6), (7, .int x7)] → K158 x1 x3 x4 x5 x6 x7 mu = some t → W p l e rm6_hangs s m args below meth c H locs cells slots (MQ below (va_Qi (fun (r9 : Int32) (_ : Unit) => r9 = t.1) (fun _ t9 => cB D Y ad t.2 t9) (cA ad s.heap.size)) args s 960 5760 (cA ad s.heap.size)) (F0 m 158 ls [])) {H : Heap} {locs : List Loc} (hH : cH D Y ad mu s H locs) {cells slots : Nat} (hc : cells + 3 * (5 + kb) ≤ 960 ∧ slots + 18 * (5 + kb) ≤ 5760) {ls : Array Slot} (hl : lv_has ls 12 [(0, .ref (ad 150)), (1, .int x1), (3, .int x3), (4, .int x4), (5, .int x5), (7, .int x7), (8, .int x8), (9, .int x9)]) (hf : f6_hangs_532 K158 x1 x3 x4 x5 x7 x8 x9 y0 mu = some t) : W p l e rm6_hangs s m args below meth c H locs cells slots (MQ below (va_Qi (fun (r9 : Int32) (_ : Unit) => r9 = t.1) (fun _ t9 => cB D Y ad t.2 t9) (cA ad s.heap.size)) args s 960 5760 (cA ad s.heap.size)) (F0 m 532 ls [.int y0]) := by
  obtain ⟨⟨hx, hb, hml, hown, hts⟩, hr, hlk, hK⟩ := id X
  replace hf : (if y0 = 0 then (f6_hangs_633 K158 x1 x3 x4 x5 x7 x8 mu) else (if x8 = 1 then (Option.bind (f6_section_0 mu (x9 / 10) 2) (fun t3 => if ((t3 >>> (x7 &&& 31)) &&& 1) = 1 then (f6_hangs_564 K158 x1 x3 x4 x5 x7 x8 mu) else (f6_hangs_633 K158 x1 x3 x4 x5 x7 x8 mu))) else (f6_hangs_564 K158 x1 x3 x4 x5 x7 x8 mu))) = some t := hf
  refine lv_istore (lv' := [(6, .int y0), (0, .ref (ad 150)), (1, .int x1), (3, .int x3), (4, .int x4), (5, .int x5), (7, .int x7), (8, .int x8), (9, .int x9)]) hx hb dL_hangs_532 hl (by decide) rfl (fun ls hl => ?_)
  refine lv_iload hx hb dL_hangs_534 (lv_at hl 0 rfl) ?_
  refine lv_if_eq (tgt := 633) hx hb dL_hangs_536 (by decide) (fun c1 => ?_) (fun c1 => ?_)
  · have hf := it_t c1 hf
    exact w6_hangs_633 X hI hl0 hZ (kb := kb) (by omega) (K158 := K158) hK158 hH ⟨by omega, by omega⟩ (lv_sub hl [1, 2, 3, 4, 5, 6, 7] rfl) hf
  · have hf := it_f c1 hf
    refine lv_iload hx hb dL_hangs_539 (lv_at hl 7 rfl) ?_
    refine lv_iconst (v := 1) hx hb dL_hangs_541 (by decide) ?_
    refine lv_icmp_ne (tgt := 564) hx hb dL_hangs_542 (by decide) (fun c2 => ?_) (fun c2 => ?_)
    · have hf := it_f c2 hf
      exact w6_hangs_564 X hI hl0 hZ (kb := kb) (by omega) (K158 := K158) hK158 hH ⟨by omega, by omega⟩ (lv_sub hl [1, 2, 3, 4, 5, 6, 7] rfl) hf
    · have hf := it_t c2 hf
      refine lv_aload_n hx hb dL_hangs_545 rfl (lv_at hl 1 rfl) ?_
      refine lv_iload hx hb dL_hangs_546 (lv_at hl 8 rfl) ?_
      refine lv_bipush (v := 10) hx hb dL_hangs_548 (by decide) ?_
      refine lv_idiv hx hb dL_hangs_550 (by decide) ?_
      refine lv_iconst (v := 2) hx hb dL_hangs_551 (by decide) ?_
      obtain ⟨t3, ht3, hf⟩ := bd_o hf
      refine kh (MC := 960) (MS := 5760) (As := [.ref (ad 150), .int (x9 / 10), .int 2]) (rest := []) ⟨rfl, rfl⟩ X hZ hH (h6_section l hI hl0 _ (x9 / 10) 2 ht3) (vx_cwSW 3 hts qL_136 rfl rfl rfl (by decide +kernel) ⟨Nat.le_of_ble_eq_true rfl, Nat.le_of_ble_eq_true rfl⟩) rfl hl.1 rfl (Nat.le_of_ble_eq_true rfl) dL_hangs_552 ⟨by omega, by omega⟩ (fun H locs hH => ?_)
      refine lv_iload hx hb dL_hangs_555 (lv_at hl 6 rfl) ?_
      refine lv_ishr hx hb dL_hangs_557 ?_
      refine lv_iconst (v := 1) hx hb dL_hangs_558 (by decide) ?_
      refine lv_iand hx hb dL_hangs_559 ?_
      refine lv_iconst (v := 1) hx hb dL_hangs_560 (by decide) ?_
      refine lv_icmp_ne (tgt := 633) hx hb dL_hangs_561 (by decide) (fun c4 => ?_) (fun c4 => ?_)
      · have hf := it_f c4 hf
        exact w6_hangs_633 X hI hl0 hZ (kb := kb) (by omega) (K158 := K158) hK158 hH ⟨by omega, by omega⟩ (lv_sub hl [1, 2, 3, 4, 5, 6, 7] rfl) hf
      · have hf := it_t c4 hf
        exact w6_hangs_564 X hI hl0 hZ (kb := kb) (by omega) (K158 := K158) hK158 hH ⟨by omega, by omega⟩ (lv_sub hl [1, 2, 3, 4, 5, 6, 7] rfl) hf
def f6_hangs_531 (K158 : Int32 → Int32 → Int32 → Int32 → Int32 → Int32 → (Nat → Nat → Int32) → (Option (Int32 × (Nat → Nat → Int32)))) (x1 : Int32) (x3 : Int32) (x4 : Int32) (x5 : Int32) (x7 : Int32) (x8 : Int32) (x9 : Int32) (mu : Nat → Nat → Int32) : Option (Int32 × (Nat → Nat → Int32)) := f6_hangs_532 K158 x1 x3 x4 x5 x7 x8 x9 0 mu
set_option maxRecDepth 100000 in
set_option maxHeartbeats 4000000 in
theorem w6_hangs_531 {p : Program} {l : Launch} {e : Env} {s : State} {m : MethodId} {args : Array Value} {below : List Frame} {meth : Method} {c : Code} {D : va_G} {Y : cYt} {ad : Nat → Nat} {mu : Nat → Nat → Int32} (X : cX D Y p s m args meth c cL_hangs 12 RL (some .boolean)) (hI : cInj ad) (hl0 : l.stackTraces = false) (hZ : lZ ad s.heap.size s)  {x1 : Int32} {x3 : Int32} {x4 : Int32} {x5 : Int32} {x7 : Int32} {x8 : Int32} {x9 : Int32} {t : Int32 × (Nat → Nat → Int32)} {kb : Nat} (hkb : 27 ≤ kb) {K158 : Int32 → Int32 → Int32 → Int32 → Int32 → Int32 → (Nat → Nat → Int32) → (Option (Int32 × (Nat → Nat → Int32)))} (hK158 : ∀ (x1 : Int32) (x3 : Int32) (x4 : Int32) (x5 : Int32) (x6 : Int32) (x7 : Int32) (mu : Nat → Nat → Int32) (H : Heap) (locs : List Loc) (cells slots : Nat), cH D Y ad mu s H locs → cells + 3 * (kb) ≤ 960 ∧ slots + 18 * (kb) ≤ 5760 → ∀ (ls : Array Slot), lv_has ls 12 [(0, .ref (ad 150)), (1, .int x1), (3, .int x3), (4, .int x4), (5, .int x5), (6, .int x6), (7, .int x7)] → K158 x1 x3 x4 x5 x6 x7 mu = some t → W p l e rm6_hangs s m args below meth c H locs cells slots (MQ below (va_Qi (fun (r9 : Int32) (_ : Unit) => r9 = t.1) (fun _ t9 => cB D Y ad t.2 t9) (cA ad s.heap.size)) args s 960 5760 (cA ad s.heap.size)) (F0 m 158 ls [])) {H : Heap} {locs : List Loc} (hH : cH D Y ad mu s H locs) {cells slots : Nat} (hc : cells + 3 * (5 + kb) ≤ 960 ∧ slots + 18 * (5 + kb) ≤ 5760) {ls : Array Slot} (hl : lv_has ls 12 [(0, .ref (ad 150)), (1, .int x1), (3, .int x3), (4, .int x4), (5, .int x5), (7, .int x7), (8, .int x8), (9, .int x9)]) (hf : f6_hangs_531 K158 x1 x3 x4 x5 x7 x8 x9 mu = some t) : W p l e rm6_hangs s m args below meth c H locs cells slots (MQ below (va_Qi (fun (r9 : Int32) (_ : Unit) => r9 = t.1) (fun _ t9 => cB D Y ad t.2 t9) (cA ad s.heap.size)) args s 960 5760 (cA ad s.heap.size)) (F0 m 531 ls []) := by
  obtain ⟨⟨hx, hb, hml, hown, hts⟩, hr, hlk, hK⟩ := id X
  replace hf : (f6_hangs_532 K158 x1 x3 x4 x5 x7 x8 x9 0 mu) = some t := hf
  refine lv_iconst (v := 0) hx hb dL_hangs_531 (by decide) ?_
  exact w6_hangs_532 X hI hl0 hZ (kb := kb) (by omega) (K158 := K158) hK158 hH ⟨by omega, by omega⟩ (lv_sub hl [0, 1, 2, 3, 4, 5, 6, 7] rfl) hf
def f6_hangs_527 (K158 : Int32 → Int32 → Int32 → Int32 → Int32 → Int32 → (Nat → Nat → Int32) → (Option (Int32 × (Nat → Nat → Int32)))) (x1 : Int32) (x3 : Int32) (x4 : Int32) (x5 : Int32) (x7 : Int32) (x8 : Int32) (x9 : Int32) (mu : Nat → Nat → Int32) : Option (Int32 × (Nat → Nat → Int32)) := f6_hangs_532 K158 x1 x3 x4 x5 x7 x8 x9 1 mu
set_option maxRecDepth 100000 in
set_option maxHeartbeats 4000000 in
theorem w6_hangs_527 {p : Program} {l : Launch} {e : Env} {s : State} {m : MethodId} {args : Array Value} {below : List Frame} {meth : Method} {c : Code} {D : va_G} {Y : cYt} {ad : Nat → Nat} {mu : Nat → Nat → Int32} (X : cX D Y p s m args meth c cL_hangs 12 RL (some .boolean)) (hI : cInj ad) (hl0 : l.stackTraces = false) (hZ : lZ ad s.heap.size s)  {x1 : Int32} {x3 : Int32} {x4 : Int32} {x5 : Int32} {x7 : Int32} {x8 : Int32} {x9 : Int32} {t : Int32 × (Nat → Nat → Int32)} {kb : Nat} (hkb : 27 ≤ kb) {K158 : Int32 → Int32 → Int32 → Int32 → Int32 → Int32 → (Nat → Nat → Int32) → (Option (Int32 × (Nat → Nat → Int32)))} (hK158 : ∀ (x1 : Int32) (x3 : Int32) (x4 : Int32) (x5 : Int32) (x6 : Int32) (x7 : Int32) (mu : Nat → Nat → Int32) (H : Heap) (locs : List Loc) (cells slots : Nat), cH D Y ad mu s H locs → cells + 3 * (kb) ≤ 960 ∧ slots + 18 * (kb) ≤ 5760 → ∀ (ls : Array Slot), lv_has ls 12 [(0, .ref (ad 150)), (1, .int x1), (3, .int x3), (4, .int x4), (5, .int x5), (6, .int x6), (7, .int x7)] → K158 x1 x3 x4 x5 x6 x7 mu = some t → W p l e rm6_hangs s m args below meth c H locs cells slots (MQ below (va_Qi (fun (r9 : Int32) (_ : Unit) => r9 = t.1) (fun _ t9 => cB D Y ad t.2 t9) (cA ad s.heap.size)) args s 960 5760 (cA ad s.heap.size)) (F0 m 158 ls [])) {H : Heap} {locs : List Loc} (hH : cH D Y ad mu s H locs) {cells slots : Nat} (hc : cells + 3 * (5 + kb) ≤ 960 ∧ slots + 18 * (5 + kb) ≤ 5760) {ls : Array Slot} (hl : lv_has ls 12 [(0, .ref (ad 150)), (1, .int x1), (3, .int x3), (4, .int x4), (5, .int x5), (7, .int x7), (8, .int x8), (9, .int x9)]) (hf : f6_hangs_527 K158 x1 x3 x4 x5 x7 x8 x9 mu = some t) : W p l e rm6_hangs s m args below meth c H locs cells slots (MQ below (va_Qi (fun (r9 : Int32) (_ : Unit) => r9 = t.1) (fun _ t9 => cB D Y ad t.2 t9) (cA ad s.heap.size)) args s 960 5760 (cA ad s.heap.size)) (F0 m 527 ls []) := by
  obtain ⟨⟨hx, hb, hml, hown, hts⟩, hr, hlk, hK⟩ := id X
  replace hf : (f6_hangs_532 K158 x1 x3 x4 x5 x7 x8 x9 1 mu) = some t := hf
  refine lv_iconst (v := 1) hx hb dL_hangs_527 (by decide) ?_
  refine lv_goto (tgt := 532) hx hb dL_hangs_528 (by decide) ?_
  exact w6_hangs_532 X hI hl0 hZ (kb := kb) (by omega) (K158 := K158) hK158 hH ⟨by omega, by omega⟩ (lv_sub hl [0, 1, 2, 3, 4, 5, 6, 7] rfl) hf
def f6_hangs_506 (K158 : Int32 → Int32 → Int32 → Int32 → Int32 → Int32 → (Nat → Nat → Int32) → (Option (Int32 × (Nat → Nat → Int32)))) (x1 : Int32) (x3 : Int32) (x4 : Int32) (x5 : Int32) (x7 : Int32) (x8 : Int32) (x9 : Int32) (mu : Nat → Nat → Int32) : Option (Int32 × (Nat → Nat → Int32)) := if x8 = 4 then (if x9 ≤ 0 then (f6_hangs_531 K158 x1 x3 x4 x5 x7 x8 x9 mu) else (Option.bind (f6_carOf_0 mu x7 2) (fun t3 => if t3 = 0 then (f6_hangs_527 K158 x1 x3 x4 x5 x7 x8 x9 mu) else (f6_hangs_531 K158 x1 x3 x4 x5 x7 x8 x9 mu)))) else (f6_hangs_527 K158 x1 x3 x4 x5 x7 x8 x9 mu)
set_option maxRecDepth 100000 in
set_option maxHeartbeats 4000000 in
theorem w6_hangs_506 {p : Program} {l : Launch} {e : Env} {s : State} {m : MethodId} {args : Array Value} {below : List Frame} {meth : Method} {c : Code} {D : va_G} {Y : cYt} {ad : Nat → Nat} {mu : Nat → Nat → Int32} (X : cX D Y p s m args meth c cL_hangs 12 RL (some .boolean)) (hI : cInj ad) (hl0 : l.stackTraces = false) (hZ : lZ ad s.heap.size s)  {x1 : Int32} {x3 : Int32} {x4 : Int32} {x5 : Int32} {x7 : Int32} {x8 : Int32} {x9 : Int32} {t : Int32 × (Nat → Nat → Int32)} {kb : Nat} (hkb : 27 ≤ kb) {K158 : Int32 → Int32 → Int32 → Int32 → Int32 → Int32 → (Nat → Nat → Int32) → (Option (Int32 × (Nat → Nat → Int32)))} (hK158 : ∀ (x1 : Int32) (x3 : Int32) (x4 : Int32) (x5 : Int32) (x6 : Int32) (x7 : Int32) (mu : Nat → Nat → Int32) (H : Heap) (locs : List Loc) (cells slots : Nat), cH D Y ad mu s H locs → cells + 3 * (kb) ≤ 960 ∧ slots + 18 * (kb) ≤ 5760 → ∀ (ls : Array Slot), lv_has ls 12 [(0, .ref (ad 150)), (1, .int x1), (3, .int x3), (4, .int x4), (5, .int x5), (6, .int x6), (7, .int x7)] → K158 x1 x3 x4 x5 x6 x7 mu = some t → W p l e rm6_hangs s m args below meth c H locs cells slots (MQ below (va_Qi (fun (r9 : Int32) (_ : Unit) => r9 = t.1) (fun _ t9 => cB D Y ad t.2 t9) (cA ad s.heap.size)) args s 960 5760 (cA ad s.heap.size)) (F0 m 158 ls [])) {H : Heap} {locs : List Loc} (hH : cH D Y ad mu s H locs) {cells slots : Nat} (hc : cells + 3 * (6 + kb) ≤ 960 ∧ slots + 18 * (6 + kb) ≤ 5760) {ls : Array Slot} (hl : lv_has ls 12 [(0, .ref (ad 150)), (1, .int x1), (3, .int x3), (4, .int x4), (5, .int x5), (7, .int x7), (8, .int x8), (9, .int x9)]) (hf : f6_hangs_506 K158 x1 x3 x4 x5 x7 x8 x9 mu = some t) : W p l e rm6_hangs s m args below meth c H locs cells slots (MQ below (va_Qi (fun (r9 : Int32) (_ : Unit) => r9 = t.1) (fun _ t9 => cB D Y ad t.2 t9) (cA ad s.heap.size)) args s 960 5760 (cA ad s.heap.size)) (F0 m 506 ls []) := by
  obtain ⟨⟨hx, hb, hml, hown, hts⟩, hr, hlk, hK⟩ := id X
  replace hf : (if x8 = 4 then (if x9 ≤ 0 then (f6_hangs_531 K158 x1 x3 x4 x5 x7 x8 x9 mu) else (Option.bind (f6_carOf_0 mu x7 2) (fun t3 => if t3 = 0 then (f6_hangs_527 K158 x1 x3 x4 x5 x7 x8 x9 mu) else (f6_hangs_531 K158 x1 x3 x4 x5 x7 x8 x9 mu)))) else (f6_hangs_527 K158 x1 x3 x4 x5 x7 x8 x9 mu)) = some t := hf
  refine lv_iload hx hb dL_hangs_506 (lv_at hl 6 rfl) ?_
  refine lv_iconst (v := 4) hx hb dL_hangs_508 (by decide) ?_
  refine lv_icmp_ne (tgt := 527) hx hb dL_hangs_509 (by decide) (fun c1 => ?_) (fun c1 => ?_)
  · have hf := it_f c1 hf
    exact w6_hangs_527 X hI hl0 hZ (kb := kb) (by omega) (K158 := K158) hK158 hH ⟨by omega, by omega⟩ (lv_sub hl [0, 1, 2, 3, 4, 5, 6, 7] rfl) hf
  · have hf := it_t c1 hf
    refine lv_iload hx hb dL_hangs_512 (lv_at hl 7 rfl) ?_
    refine lv_if_le (tgt := 531) hx hb dL_hangs_514 (by decide) (fun c2 => ?_) (fun c2 => ?_)
    · have hf := it_t c2 hf
      exact w6_hangs_531 X hI hl0 hZ (kb := kb) (by omega) (K158 := K158) hK158 hH ⟨by omega, by omega⟩ (lv_sub hl [0, 1, 2, 3, 4, 5, 6, 7] rfl) hf
    · have hf := it_f c2 hf
      refine lv_aload_n hx hb dL_hangs_517 rfl (lv_at hl 0 rfl) ?_
      refine lv_iload hx hb dL_hangs_518 (lv_at hl 5 rfl) ?_
      refine lv_iconst (v := 2) hx hb dL_hangs_520 (by decide) ?_
      obtain ⟨t3, ht3, hf⟩ := bd_o hf
      refine kh (MC := 960) (MS := 5760) (As := [.ref (ad 150), .int x7, .int 2]) (rest := []) ⟨rfl, rfl⟩ X hZ hH (h6_carOf l hI hl0 _ x7 2 ht3) (vx_cwSW 3 hts qL_134 rfl rfl rfl (by decide +kernel) ⟨Nat.le_of_ble_eq_true rfl, Nat.le_of_ble_eq_true rfl⟩) rfl hl.1 rfl (Nat.le_of_ble_eq_true rfl) dL_hangs_521 ⟨by omega, by omega⟩ (fun H locs hH => ?_)
      refine lv_if_ne (tgt := 531) hx hb dL_hangs_524 (by decide) (fun c4 => ?_) (fun c4 => ?_)
      · have hf := it_f c4 hf
        exact w6_hangs_531 X hI hl0 hZ (kb := kb) (by omega) (K158 := K158) hK158 hH ⟨by omega, by omega⟩ (lv_sub hl [0, 1, 2, 3, 4, 5, 6, 7] rfl) hf
      · have hf := it_t c4 hf
        exact w6_hangs_527 X hI hl0 hZ (kb := kb) (by omega) (K158 := K158) hK158 hH ⟨by omega, by omega⟩ (lv_sub hl [0, 1, 2, 3, 4, 5, 6, 7] rfl) hf
def f6_hangs_455 (K158 : Int32 → Int32 → Int32 → Int32 → Int32 → Int32 → (Nat → Nat → Int32) → (Option (Int32 × (Nat → Nat → Int32)))) (x1 : Int32) (x3 : Int32) (x4 : Int32) (x5 : Int32) (x7 : Int32) (x8 : Int32) (x9 : Int32) (mu : Nat → Nat → Int32) : Option (Int32 × (Nat → Nat → Int32)) := if x8 = 3 then (if (rmI x9 10) = 0 then (if x9 ≤ 0 then (f6_hangs_531 K158 x1 x3 x4 x5 x7 x8 x9 mu) else (Option.bind (f6_section_0 mu (x9 / 10) 3) (fun t4 => if ((t4 >>> (x7 &&& 31)) &&& 1) = 1 then (Option.bind (f6_section_0 mu (x9 / 10) 4) (fun t6 => if t6 ≤ 0 then (f6_hangs_531 K158 x1 x3 x4 x5 x7 x8 x9 mu) else (f6_hangs_506 K158 x1 x3 x4 x5 x7 x8 x9 mu))) else (f6_hangs_531 K158 x1 x3 x4 x5 x7 x8 x9 mu)))) else (f6_hangs_531 K158 x1 x3 x4 x5 x7 x8 x9 mu)) else (f6_hangs_506 K158 x1 x3 x4 x5 x7 x8 x9 mu)
set_option maxRecDepth 100000 in
set_option maxHeartbeats 4000000 in
theorem w6_hangs_455 {p : Program} {l : Launch} {e : Env} {s : State} {m : MethodId} {args : Array Value} {below : List Frame} {meth : Method} {c : Code} {D : va_G} {Y : cYt} {ad : Nat → Nat} {mu : Nat → Nat → Int32} (X : cX D Y p s m args meth c cL_hangs 12 RL (some .boolean)) (hI : cInj ad) (hl0 : l.stackTraces = false) (hZ : lZ ad s.heap.size s)  {x1 : Int32} {x3 : Int32} {x4 : Int32} {x5 : Int32} {x7 : Int32} {x8 : Int32} {x9 : Int32} {t : Int32 × (Nat → Nat → Int32)} {kb : Nat} (hkb : 27 ≤ kb) {K158 : Int32 → Int32 → Int32 → Int32 → Int32 → Int32 → (Nat → Nat → Int32) → (Option (Int32 × (Nat → Nat → Int32)))} (hK158 : ∀ (x1 : Int32) (x3 : Int32) (x4 : Int32) (x5 : Int32) (x6 : Int32) (x7 : Int32) (mu : Nat → Nat → Int32) (H : Heap) (locs : List Loc) (cells slots : Nat), cH D Y ad mu s H locs → cells + 3 * (kb) ≤ 960 ∧ slots + 18 * (kb) ≤ 5760 → ∀ (ls : Array Slot), lv_has ls 12 [(0, .ref (ad 150)), (1, .int x1), (3, .int x3), (4, .int x4), (5, .int x5), (6, .int x6), (7, .int x7)] → K158 x1 x3 x4 x5 x6 x7 mu = some t → W p l e rm6_hangs s m args below meth c H locs cells slots (MQ below (va_Qi (fun (r9 : Int32) (_ : Unit) => r9 = t.1) (fun _ t9 => cB D Y ad t.2 t9) (cA ad s.heap.size)) args s 960 5760 (cA ad s.heap.size)) (F0 m 158 ls [])) {H : Heap} {locs : List Loc} (hH : cH D Y ad mu s H locs) {cells slots : Nat} (hc : cells + 3 * (8 + kb) ≤ 960 ∧ slots + 18 * (8 + kb) ≤ 5760) {ls : Array Slot} (hl : lv_has ls 12 [(0, .ref (ad 150)), (1, .int x1), (3, .int x3), (4, .int x4), (5, .int x5), (7, .int x7), (8, .int x8), (9, .int x9)]) (hf : f6_hangs_455 K158 x1 x3 x4 x5 x7 x8 x9 mu = some t) : W p l e rm6_hangs s m args below meth c H locs cells slots (MQ below (va_Qi (fun (r9 : Int32) (_ : Unit) => r9 = t.1) (fun _ t9 => cB D Y ad t.2 t9) (cA ad s.heap.size)) args s 960 5760 (cA ad s.heap.size)) (F0 m 455 ls []) := by
  obtain ⟨⟨hx, hb, hml, hown, hts⟩, hr, hlk, hK⟩ := id X
  replace hf : (if x8 = 3 then (if (rmI x9 10) = 0 then (if x9 ≤ 0 then (f6_hangs_531 K158 x1 x3 x4 x5 x7 x8 x9 mu) else (Option.bind (f6_section_0 mu (x9 / 10) 3) (fun t4 => if ((t4 >>> (x7 &&& 31)) &&& 1) = 1 then (Option.bind (f6_section_0 mu (x9 / 10) 4) (fun t6 => if t6 ≤ 0 then (f6_hangs_531 K158 x1 x3 x4 x5 x7 x8 x9 mu) else (f6_hangs_506 K158 x1 x3 x4 x5 x7 x8 x9 mu))) else (f6_hangs_531 K158 x1 x3 x4 x5 x7 x8 x9 mu)))) else (f6_hangs_531 K158 x1 x3 x4 x5 x7 x8 x9 mu)) else (f6_hangs_506 K158 x1 x3 x4 x5 x7 x8 x9 mu)) = some t := hf
  refine lv_iload hx hb dL_hangs_455 (lv_at hl 6 rfl) ?_
  refine lv_iconst (v := 3) hx hb dL_hangs_457 (by decide) ?_
  refine lv_icmp_ne (tgt := 506) hx hb dL_hangs_458 (by decide) (fun c1 => ?_) (fun c1 => ?_)
  · have hf := it_f c1 hf
    exact w6_hangs_506 X hI hl0 hZ (kb := kb) (by omega) (K158 := K158) hK158 hH ⟨by omega, by omega⟩ (lv_sub hl [0, 1, 2, 3, 4, 5, 6, 7] rfl) hf
  · have hf := it_t c1 hf
    refine lv_iload hx hb dL_hangs_461 (lv_at hl 7 rfl) ?_
    refine lv_bipush (v := 10) hx hb dL_hangs_463 (by decide) ?_
    refine hr_irem hx hb dL_hangs_465 (by decide) ?_
    refine lv_if_ne (tgt := 531) hx hb dL_hangs_466 (by decide) (fun c2 => ?_) (fun c2 => ?_)
    · have hf := it_f c2 hf
      exact w6_hangs_531 X hI hl0 hZ (kb := kb) (by omega) (K158 := K158) hK158 hH ⟨by omega, by omega⟩ (lv_sub hl [0, 1, 2, 3, 4, 5, 6, 7] rfl) hf
    · have hf := it_t c2 hf
      refine lv_iload hx hb dL_hangs_469 (lv_at hl 7 rfl) ?_
      refine lv_if_le (tgt := 531) hx hb dL_hangs_471 (by decide) (fun c3 => ?_) (fun c3 => ?_)
      · have hf := it_t c3 hf
        exact w6_hangs_531 X hI hl0 hZ (kb := kb) (by omega) (K158 := K158) hK158 hH ⟨by omega, by omega⟩ (lv_sub hl [0, 1, 2, 3, 4, 5, 6, 7] rfl) hf
      · have hf := it_f c3 hf
        refine lv_aload_n hx hb dL_hangs_474 rfl (lv_at hl 0 rfl) ?_
        refine lv_iload hx hb dL_hangs_475 (lv_at hl 7 rfl) ?_
        refine lv_bipush (v := 10) hx hb dL_hangs_477 (by decide) ?_
        refine lv_idiv hx hb dL_hangs_479 (by decide) ?_
        refine lv_iconst (v := 3) hx hb dL_hangs_480 (by decide) ?_
        obtain ⟨t4, ht4, hf⟩ := bd_o hf
        refine kh (MC := 960) (MS := 5760) (As := [.ref (ad 150), .int (x9 / 10), .int 3]) (rest := []) ⟨rfl, rfl⟩ X hZ hH (h6_section l hI hl0 _ (x9 / 10) 3 ht4) (vx_cwSW 3 hts qL_136 rfl rfl rfl (by decide +kernel) ⟨Nat.le_of_ble_eq_true rfl, Nat.le_of_ble_eq_true rfl⟩) rfl hl.1 rfl (Nat.le_of_ble_eq_true rfl) dL_hangs_481 ⟨by omega, by omega⟩ (fun H locs hH => ?_)
        refine lv_iload hx hb dL_hangs_484 (lv_at hl 5 rfl) ?_
        refine lv_ishr hx hb dL_hangs_486 ?_
        refine lv_iconst (v := 1) hx hb dL_hangs_487 (by decide) ?_
        refine lv_iand hx hb dL_hangs_488 ?_
        refine lv_iconst (v := 1) hx hb dL_hangs_489 (by decide) ?_
        refine lv_icmp_ne (tgt := 531) hx hb dL_hangs_490 (by decide) (fun c5 => ?_) (fun c5 => ?_)
        · have hf := it_f c5 hf
          exact w6_hangs_531 X hI hl0 hZ (kb := kb) (by omega) (K158 := K158) hK158 hH ⟨by omega, by omega⟩ (lv_sub hl [0, 1, 2, 3, 4, 5, 6, 7] rfl) hf
        · have hf := it_t c5 hf
          refine lv_aload_n hx hb dL_hangs_493 rfl (lv_at hl 0 rfl) ?_
          refine lv_iload hx hb dL_hangs_494 (lv_at hl 7 rfl) ?_
          refine lv_bipush (v := 10) hx hb dL_hangs_496 (by decide) ?_
          refine lv_idiv hx hb dL_hangs_498 (by decide) ?_
          refine lv_iconst (v := 4) hx hb dL_hangs_499 (by decide) ?_
          obtain ⟨t6, ht6, hf⟩ := bd_o hf
          refine kh (MC := 960) (MS := 5760) (As := [.ref (ad 150), .int (x9 / 10), .int 4]) (rest := []) ⟨rfl, rfl⟩ X hZ hH (h6_section l hI hl0 _ (x9 / 10) 4 ht6) (vx_cwSW 3 hts qL_136 rfl rfl rfl (by decide +kernel) ⟨Nat.le_of_ble_eq_true rfl, Nat.le_of_ble_eq_true rfl⟩) rfl hl.1 rfl (Nat.le_of_ble_eq_true rfl) dL_hangs_500 ⟨by omega, by omega⟩ (fun H locs hH => ?_)
          refine lv_if_le (tgt := 531) hx hb dL_hangs_503 (by decide) (fun c7 => ?_) (fun c7 => ?_)
          · have hf := it_t c7 hf
            exact w6_hangs_531 X hI hl0 hZ (kb := kb) (by omega) (K158 := K158) hK158 hH ⟨by omega, by omega⟩ (lv_sub hl [0, 1, 2, 3, 4, 5, 6, 7] rfl) hf
          · have hf := it_f c7 hf
            exact w6_hangs_506 X hI hl0 hZ (kb := kb) (by omega) (K158 := K158) hK158 hH ⟨by omega, by omega⟩ (lv_sub hl [0, 1, 2, 3, 4, 5, 6, 7] rfl) hf
def f6_hangs_421 (K158 : Int32 → Int32 → Int32 → Int32 → Int32 → Int32 → (Nat → Nat → Int32) → (Option (Int32 × (Nat → Nat → Int32)))) (x1 : Int32) (x3 : Int32) (x4 : Int32) (x5 : Int32) (x7 : Int32) (x8 : Int32) (x9 : Int32) (mu : Nat → Nat → Int32) : Option (Int32 × (Nat → Nat → Int32)) := if x8 = 2 then (if x9 = 300 then (Option.bind (f6_carOf_0 mu x7 1) (fun t3 => if t3 = 0 then (Option.bind (f6_carOf_0 mu x7 2) (fun t5 => if t5 = 0 then (f6_hangs_455 K158 x1 x3 x4 x5 x7 x8 x9 mu) else (f6_hangs_531 K158 x1 x3 x4 x5 x7 x8 x9 mu))) else (f6_hangs_531 K158 x1 x3 x4 x5 x7 x8 x9 mu))) else (f6_hangs_531 K158 x1 x3 x4 x5 x7 x8 x9 mu)) else (f6_hangs_455 K158 x1 x3 x4 x5 x7 x8 x9 mu)
set_option maxRecDepth 100000 in
set_option maxHeartbeats 4000000 in
theorem w6_hangs_421 {p : Program} {l : Launch} {e : Env} {s : State} {m : MethodId} {args : Array Value} {below : List Frame} {meth : Method} {c : Code} {D : va_G} {Y : cYt} {ad : Nat → Nat} {mu : Nat → Nat → Int32} (X : cX D Y p s m args meth c cL_hangs 12 RL (some .boolean)) (hI : cInj ad) (hl0 : l.stackTraces = false) (hZ : lZ ad s.heap.size s)  {x1 : Int32} {x3 : Int32} {x4 : Int32} {x5 : Int32} {x7 : Int32} {x8 : Int32} {x9 : Int32} {t : Int32 × (Nat → Nat → Int32)} {kb : Nat} (hkb : 27 ≤ kb) {K158 : Int32 → Int32 → Int32 → Int32 → Int32 → Int32 → (Nat → Nat → Int32) → (Option (Int32 × (Nat → Nat → Int32)))} (hK158 : ∀ (x1 : Int32) (x3 : Int32) (x4 : Int32) (x5 : Int32) (x6 : Int32) (x7 : Int32) (mu : Nat → Nat → Int32) (H : Heap) (locs : List Loc) (cells slots : Nat), cH D Y ad mu s H locs → cells + 3 * (kb) ≤ 960 ∧ slots + 18 * (kb) ≤ 5760 → ∀ (ls : Array Slot), lv_has ls 12 [(0, .ref (ad 150)), (1, .int x1), (3, .int x3), (4, .int x4), (5, .int x5), (6, .int x6), (7, .int x7)] → K158 x1 x3 x4 x5 x6 x7 mu = some t → W p l e rm6_hangs s m args below meth c H locs cells slots (MQ below (va_Qi (fun (r9 : Int32) (_ : Unit) => r9 = t.1) (fun _ t9 => cB D Y ad t.2 t9) (cA ad s.heap.size)) args s 960 5760 (cA ad s.heap.size)) (F0 m 158 ls [])) {H : Heap} {locs : List Loc} (hH : cH D Y ad mu s H locs) {cells slots : Nat} (hc : cells + 3 * (10 + kb) ≤ 960 ∧ slots + 18 * (10 + kb) ≤ 5760) {ls : Array Slot} (hl : lv_has ls 12 [(0, .ref (ad 150)), (1, .int x1), (3, .int x3), (4, .int x4), (5, .int x5), (7, .int x7), (8, .int x8), (9, .int x9)]) (hf : f6_hangs_421 K158 x1 x3 x4 x5 x7 x8 x9 mu = some t) : W p l e rm6_hangs s m args below meth c H locs cells slots (MQ below (va_Qi (fun (r9 : Int32) (_ : Unit) => r9 = t.1) (fun _ t9 => cB D Y ad t.2 t9) (cA ad s.heap.size)) args s 960 5760 (cA ad s.heap.size)) (F0 m 421 ls []) := by
  obtain ⟨⟨hx, hb, hml, hown, hts⟩, hr, hlk, hK⟩ := id X
  replace hf : (if x8 = 2 then (if x9 = 300 then (Option.bind (f6_carOf_0 mu x7 1) (fun t3 => if t3 = 0 then (Option.bind (f6_carOf_0 mu x7 2) (fun t5 => if t5 = 0 then (f6_hangs_455 K158 x1 x3 x4 x5 x7 x8 x9 mu) else (f6_hangs_531 K158 x1 x3 x4 x5 x7 x8 x9 mu))) else (f6_hangs_531 K158 x1 x3 x4 x5 x7 x8 x9 mu))) else (f6_hangs_531 K158 x1 x3 x4 x5 x7 x8 x9 mu)) else (f6_hangs_455 K158 x1 x3 x4 x5 x7 x8 x9 mu)) = some t := hf
  refine lv_iload hx hb dL_hangs_421 (lv_at hl 6 rfl) ?_
  refine lv_iconst (v := 2) hx hb dL_hangs_423 (by decide) ?_
  refine lv_icmp_ne (tgt := 455) hx hb dL_hangs_424 (by decide) (fun c1 => ?_) (fun c1 => ?_)
  · have hf := it_f c1 hf
    exact w6_hangs_455 X hI hl0 hZ (kb := kb) (by omega) (K158 := K158) hK158 hH ⟨by omega, by omega⟩ (lv_sub hl [0, 1, 2, 3, 4, 5, 6, 7] rfl) hf
  · have hf := it_t c1 hf
    refine lv_iload hx hb dL_hangs_427 (lv_at hl 7 rfl) ?_
    refine lv_sipush (v := 300) hx hb dL_hangs_429 (by decide) ?_
    refine lv_icmp_ne (tgt := 531) hx hb dL_hangs_432 (by decide) (fun c2 => ?_) (fun c2 => ?_)
    · have hf := it_f c2 hf
      exact w6_hangs_531 X hI hl0 hZ (kb := kb) (by omega) (K158 := K158) hK158 hH ⟨by omega, by omega⟩ (lv_sub hl [0, 1, 2, 3, 4, 5, 6, 7] rfl) hf
    · have hf := it_t c2 hf
      refine lv_aload_n hx hb dL_hangs_435 rfl (lv_at hl 0 rfl) ?_
      refine lv_iload hx hb dL_hangs_436 (lv_at hl 5 rfl) ?_
      refine lv_iconst (v := 1) hx hb dL_hangs_438 (by decide) ?_
      obtain ⟨t3, ht3, hf⟩ := bd_o hf
      refine kh (MC := 960) (MS := 5760) (As := [.ref (ad 150), .int x7, .int 1]) (rest := []) ⟨rfl, rfl⟩ X hZ hH (h6_carOf l hI hl0 _ x7 1 ht3) (vx_cwSW 3 hts qL_134 rfl rfl rfl (by decide +kernel) ⟨Nat.le_of_ble_eq_true rfl, Nat.le_of_ble_eq_true rfl⟩) rfl hl.1 rfl (Nat.le_of_ble_eq_true rfl) dL_hangs_439 ⟨by omega, by omega⟩ (fun H locs hH => ?_)
      refine lv_if_ne (tgt := 531) hx hb dL_hangs_442 (by decide) (fun c4 => ?_) (fun c4 => ?_)
      · have hf := it_f c4 hf
        exact w6_hangs_531 X hI hl0 hZ (kb := kb) (by omega) (K158 := K158) hK158 hH ⟨by omega, by omega⟩ (lv_sub hl [0, 1, 2, 3, 4, 5, 6, 7] rfl) hf
      · have hf := it_t c4 hf
        refine lv_aload_n hx hb dL_hangs_445 rfl (lv_at hl 0 rfl) ?_
        refine lv_iload hx hb dL_hangs_446 (lv_at hl 5 rfl) ?_
        refine lv_iconst (v := 2) hx hb dL_hangs_448 (by decide) ?_
        obtain ⟨t5, ht5, hf⟩ := bd_o hf
        refine kh (MC := 960) (MS := 5760) (As := [.ref (ad 150), .int x7, .int 2]) (rest := []) ⟨rfl, rfl⟩ X hZ hH (h6_carOf l hI hl0 _ x7 2 ht5) (vx_cwSW 3 hts qL_134 rfl rfl rfl (by decide +kernel) ⟨Nat.le_of_ble_eq_true rfl, Nat.le_of_ble_eq_true rfl⟩) rfl hl.1 rfl (Nat.le_of_ble_eq_true rfl) dL_hangs_449 ⟨by omega, by omega⟩ (fun H locs hH => ?_)
        refine lv_if_ne (tgt := 531) hx hb dL_hangs_452 (by decide) (fun c6 => ?_) (fun c6 => ?_)
        · have hf := it_f c6 hf
          exact w6_hangs_531 X hI hl0 hZ (kb := kb) (by omega) (K158 := K158) hK158 hH ⟨by omega, by omega⟩ (lv_sub hl [0, 1, 2, 3, 4, 5, 6, 7] rfl) hf
        · have hf := it_t c6 hf
          exact w6_hangs_455 X hI hl0 hZ (kb := kb) (by omega) (K158 := K158) hK158 hH ⟨by omega, by omega⟩ (lv_sub hl [0, 1, 2, 3, 4, 5, 6, 7] rfl) hf
def f6_hangs_407 (K158 : Int32 → Int32 → Int32 → Int32 → Int32 → Int32 → (Nat → Nat → Int32) → (Option (Int32 × (Nat → Nat → Int32)))) (x1 : Int32) (x3 : Int32) (x4 : Int32) (x5 : Int32) (x7 : Int32) (x8 : Int32) (x9 : Int32) (mu : Nat → Nat → Int32) : Option (Int32 × (Nat → Nat → Int32)) := if x8 = 1 then (if 300 ≤ x9 then (f6_hangs_531 K158 x1 x3 x4 x5 x7 x8 x9 mu) else (f6_hangs_421 K158 x1 x3 x4 x5 x7 x8 x9 mu)) else (f6_hangs_421 K158 x1 x3 x4 x5 x7 x8 x9 mu)
set_option maxRecDepth 100000 in
set_option maxHeartbeats 4000000 in
theorem w6_hangs_407 {p : Program} {l : Launch} {e : Env} {s : State} {m : MethodId} {args : Array Value} {below : List Frame} {meth : Method} {c : Code} {D : va_G} {Y : cYt} {ad : Nat → Nat} {mu : Nat → Nat → Int32} (X : cX D Y p s m args meth c cL_hangs 12 RL (some .boolean)) (hI : cInj ad) (hl0 : l.stackTraces = false) (hZ : lZ ad s.heap.size s)  {x1 : Int32} {x3 : Int32} {x4 : Int32} {x5 : Int32} {x7 : Int32} {x8 : Int32} {x9 : Int32} {t : Int32 × (Nat → Nat → Int32)} {kb : Nat} (hkb : 27 ≤ kb) {K158 : Int32 → Int32 → Int32 → Int32 → Int32 → Int32 → (Nat → Nat → Int32) → (Option (Int32 × (Nat → Nat → Int32)))} (hK158 : ∀ (x1 : Int32) (x3 : Int32) (x4 : Int32) (x5 : Int32) (x6 : Int32) (x7 : Int32) (mu : Nat → Nat → Int32) (H : Heap) (locs : List Loc) (cells slots : Nat), cH D Y ad mu s H locs → cells + 3 * (kb) ≤ 960 ∧ slots + 18 * (kb) ≤ 5760 → ∀ (ls : Array Slot), lv_has ls 12 [(0, .ref (ad 150)), (1, .int x1), (3, .int x3), (4, .int x4), (5, .int x5), (6, .int x6), (7, .int x7)] → K158 x1 x3 x4 x5 x6 x7 mu = some t → W p l e rm6_hangs s m args below meth c H locs cells slots (MQ below (va_Qi (fun (r9 : Int32) (_ : Unit) => r9 = t.1) (fun _ t9 => cB D Y ad t.2 t9) (cA ad s.heap.size)) args s 960 5760 (cA ad s.heap.size)) (F0 m 158 ls [])) {H : Heap} {locs : List Loc} (hH : cH D Y ad mu s H locs) {cells slots : Nat} (hc : cells + 3 * (10 + kb) ≤ 960 ∧ slots + 18 * (10 + kb) ≤ 5760) {ls : Array Slot} (hl : lv_has ls 12 [(0, .ref (ad 150)), (1, .int x1), (3, .int x3), (4, .int x4), (5, .int x5), (7, .int x7), (8, .int x8), (9, .int x9)]) (hf : f6_hangs_407 K158 x1 x3 x4 x5 x7 x8 x9 mu = some t) : W p l e rm6_hangs s m args below meth c H locs cells slots (MQ below (va_Qi (fun (r9 : Int32) (_ : Unit) => r9 = t.1) (fun _ t9 => cB D Y ad t.2 t9) (cA ad s.heap.size)) args s 960 5760 (cA ad s.heap.size)) (F0 m 407 ls []) := by
  obtain ⟨⟨hx, hb, hml, hown, hts⟩, hr, hlk, hK⟩ := id X
  replace hf : (if x8 = 1 then (if 300 ≤ x9 then (f6_hangs_531 K158 x1 x3 x4 x5 x7 x8 x9 mu) else (f6_hangs_421 K158 x1 x3 x4 x5 x7 x8 x9 mu)) else (f6_hangs_421 K158 x1 x3 x4 x5 x7 x8 x9 mu)) = some t := hf
  refine lv_iload hx hb dL_hangs_407 (lv_at hl 6 rfl) ?_
  refine lv_iconst (v := 1) hx hb dL_hangs_409 (by decide) ?_
  refine lv_icmp_ne (tgt := 421) hx hb dL_hangs_410 (by decide) (fun c1 => ?_) (fun c1 => ?_)
  · have hf := it_f c1 hf
    exact w6_hangs_421 X hI hl0 hZ (kb := kb) (by omega) (K158 := K158) hK158 hH ⟨by omega, by omega⟩ (lv_sub hl [0, 1, 2, 3, 4, 5, 6, 7] rfl) hf
  · have hf := it_t c1 hf
    refine lv_iload hx hb dL_hangs_413 (lv_at hl 7 rfl) ?_
    refine lv_sipush (v := 300) hx hb dL_hangs_415 (by decide) ?_
    refine lv_icmp_ge (tgt := 531) hx hb dL_hangs_418 (by decide) (fun c2 => ?_) (fun c2 => ?_)
    · have hf := it_t c2 hf
      exact w6_hangs_531 X hI hl0 hZ (kb := kb) (by omega) (K158 := K158) hK158 hH ⟨by omega, by omega⟩ (lv_sub hl [0, 1, 2, 3, 4, 5, 6, 7] rfl) hf
    · have hf := it_f c2 hf
      exact w6_hangs_421 X hI hl0 hZ (kb := kb) (by omega) (K158 := K158) hK158 hH ⟨by omega, by omega⟩ (lv_sub hl [0, 1, 2, 3, 4, 5, 6, 7] rfl) hf
def f6_hangs_397 (K158 : Int32 → Int32 → Int32 → Int32 → Int32 → Int32 → (Nat → Nat → Int32) → (Option (Int32 × (Nat → Nat → Int32)))) (x1 : Int32) (x3 : Int32) (x4 : Int32) (x5 : Int32) (x7 : Int32) (x8 : Int32) (x9 : Int32) (mu : Nat → Nat → Int32) : Option (Int32 × (Nat → Nat → Int32)) := if x8 = 0 then (if x9 = 0 then (f6_hangs_407 K158 x1 x3 x4 x5 x7 x8 x9 mu) else (f6_hangs_531 K158 x1 x3 x4 x5 x7 x8 x9 mu)) else (f6_hangs_407 K158 x1 x3 x4 x5 x7 x8 x9 mu)
set_option maxRecDepth 100000 in
set_option maxHeartbeats 4000000 in
theorem w6_hangs_397 {p : Program} {l : Launch} {e : Env} {s : State} {m : MethodId} {args : Array Value} {below : List Frame} {meth : Method} {c : Code} {D : va_G} {Y : cYt} {ad : Nat → Nat} {mu : Nat → Nat → Int32} (X : cX D Y p s m args meth c cL_hangs 12 RL (some .boolean)) (hI : cInj ad) (hl0 : l.stackTraces = false) (hZ : lZ ad s.heap.size s)  {x1 : Int32} {x3 : Int32} {x4 : Int32} {x5 : Int32} {x7 : Int32} {x8 : Int32} {x9 : Int32} {t : Int32 × (Nat → Nat → Int32)} {kb : Nat} (hkb : 27 ≤ kb) {K158 : Int32 → Int32 → Int32 → Int32 → Int32 → Int32 → (Nat → Nat → Int32) → (Option (Int32 × (Nat → Nat → Int32)))} (hK158 : ∀ (x1 : Int32) (x3 : Int32) (x4 : Int32) (x5 : Int32) (x6 : Int32) (x7 : Int32) (mu : Nat → Nat → Int32) (H : Heap) (locs : List Loc) (cells slots : Nat), cH D Y ad mu s H locs → cells + 3 * (kb) ≤ 960 ∧ slots + 18 * (kb) ≤ 5760 → ∀ (ls : Array Slot), lv_has ls 12 [(0, .ref (ad 150)), (1, .int x1), (3, .int x3), (4, .int x4), (5, .int x5), (6, .int x6), (7, .int x7)] → K158 x1 x3 x4 x5 x6 x7 mu = some t → W p l e rm6_hangs s m args below meth c H locs cells slots (MQ below (va_Qi (fun (r9 : Int32) (_ : Unit) => r9 = t.1) (fun _ t9 => cB D Y ad t.2 t9) (cA ad s.heap.size)) args s 960 5760 (cA ad s.heap.size)) (F0 m 158 ls [])) {H : Heap} {locs : List Loc} (hH : cH D Y ad mu s H locs) {cells slots : Nat} (hc : cells + 3 * (10 + kb) ≤ 960 ∧ slots + 18 * (10 + kb) ≤ 5760) {ls : Array Slot} (hl : lv_has ls 12 [(0, .ref (ad 150)), (1, .int x1), (3, .int x3), (4, .int x4), (5, .int x5), (7, .int x7), (8, .int x8), (9, .int x9)]) (hf : f6_hangs_397 K158 x1 x3 x4 x5 x7 x8 x9 mu = some t) : W p l e rm6_hangs s m args below meth c H locs cells slots (MQ below (va_Qi (fun (r9 : Int32) (_ : Unit) => r9 = t.1) (fun _ t9 => cB D Y ad t.2 t9) (cA ad s.heap.size)) args s 960 5760 (cA ad s.heap.size)) (F0 m 397 ls []) := by
  obtain ⟨⟨hx, hb, hml, hown, hts⟩, hr, hlk, hK⟩ := id X
  replace hf : (if x8 = 0 then (if x9 = 0 then (f6_hangs_407 K158 x1 x3 x4 x5 x7 x8 x9 mu) else (f6_hangs_531 K158 x1 x3 x4 x5 x7 x8 x9 mu)) else (f6_hangs_407 K158 x1 x3 x4 x5 x7 x8 x9 mu)) = some t := hf
  refine lv_iload hx hb dL_hangs_397 (lv_at hl 6 rfl) ?_
  refine lv_if_ne (tgt := 407) hx hb dL_hangs_399 (by decide) (fun c1 => ?_) (fun c1 => ?_)
  · have hf := it_f c1 hf
    exact w6_hangs_407 X hI hl0 hZ (kb := kb) (by omega) (K158 := K158) hK158 hH ⟨by omega, by omega⟩ (lv_sub hl [0, 1, 2, 3, 4, 5, 6, 7] rfl) hf
  · have hf := it_t c1 hf
    refine lv_iload hx hb dL_hangs_402 (lv_at hl 7 rfl) ?_
    refine lv_if_ne (tgt := 531) hx hb dL_hangs_404 (by decide) (fun c2 => ?_) (fun c2 => ?_)
    · have hf := it_f c2 hf
      exact w6_hangs_531 X hI hl0 hZ (kb := kb) (by omega) (K158 := K158) hK158 hH ⟨by omega, by omega⟩ (lv_sub hl [0, 1, 2, 3, 4, 5, 6, 7] rfl) hf
    · have hf := it_t c2 hf
      exact w6_hangs_407 X hI hl0 hZ (kb := kb) (by omega) (K158 := K158) hK158 hH ⟨by omega, by omega⟩ (lv_sub hl [0, 1, 2, 3, 4, 5, 6, 7] rfl) hf
def f6_hangs_383 (K158 : Int32 → Int32 → Int32 → Int32 → Int32 → Int32 → (Nat → Nat → Int32) → (Option (Int32 × (Nat → Nat → Int32)))) (x1 : Int32) (x3 : Int32) (x4 : Int32) (x5 : Int32) (x7 : Int32) (x8 : Int32) (x9 : Int32) (x10 : Int32) (y0 : Int32) (y1 : Int32) (mu : Nat → Nat → Int32) : Option (Int32 × (Nat → Nat → Int32)) := if y1 = y0 then (if x8 = 1 then (f6_hangs_397 K158 x1 x3 x4 x5 x7 x8 x9 mu) else (if x10 = 0 then (f6_hangs_397 K158 x1 x3 x4 x5 x7 x8 x9 mu) else (f6_hangs_531 K158 x1 x3 x4 x5 x7 x8 x9 mu))) else (f6_hangs_531 K158 x1 x3 x4 x5 x7 x8 x9 mu)
set_option maxRecDepth 100000 in
set_option maxHeartbeats 4000000 in
theorem w6_hangs_383 {p : Program} {l : Launch} {e : Env} {s : State} {m : MethodId} {args : Array Value} {below : List Frame} {meth : Method} {c : Code} {D : va_G} {Y : cYt} {ad : Nat → Nat} {mu : Nat → Nat → Int32} (X : cX D Y p s m args meth c cL_hangs 12 RL (some .boolean)) (hI : cInj ad) (hl0 : l.stackTraces = false) (hZ : lZ ad s.heap.size s)  {x1 : Int32} {x3 : Int32} {x4 : Int32} {x5 : Int32} {x7 : Int32} {x8 : Int32} {x9 : Int32} {x10 : Int32} {y0 : Int32} {y1 : Int32} {t : Int32 × (Nat → Nat → Int32)} {kb : Nat} (hkb : 27 ≤ kb) {K158 : Int32 → Int32 → Int32 → Int32 → Int32 → Int32 → (Nat → Nat → Int32) → (Option (Int32 × (Nat → Nat → Int32)))} (hK158 : ∀ (x1 : Int32) (x3 : Int32) (x4 : Int32) (x5 : Int32) (x6 : Int32) (x7 : Int32) (mu : Nat → Nat → Int32) (H : Heap) (locs : List Loc) (cells slots : Nat), cH D Y ad mu s H locs → cells + 3 * (kb) ≤ 960 ∧ slots + 18 * (kb) ≤ 5760 → ∀ (ls : Array Slot), lv_has ls 12 [(0, .ref (ad 150)), (1, .int x1), (3, .int x3), (4, .int x4), (5, .int x5), (6, .int x6), (7, .int x7)] → K158 x1 x3 x4 x5 x6 x7 mu = some t → W p l e rm6_hangs s m args below meth c H locs cells slots (MQ below (va_Qi (fun (r9 : Int32) (_ : Unit) => r9 = t.1) (fun _ t9 => cB D Y ad t.2 t9) (cA ad s.heap.size)) args s 960 5760 (cA ad s.heap.size)) (F0 m 158 ls [])) {H : Heap} {locs : List Loc} (hH : cH D Y ad mu s H locs) {cells slots : Nat} (hc : cells + 3 * (10 + kb) ≤ 960 ∧ slots + 18 * (10 + kb) ≤ 5760) {ls : Array Slot} (hl : lv_has ls 12 [(0, .ref (ad 150)), (1, .int x1), (3, .int x3), (4, .int x4), (5, .int x5), (7, .int x7), (8, .int x8), (9, .int x9), (10, .int x10)]) (hf : f6_hangs_383 K158 x1 x3 x4 x5 x7 x8 x9 x10 y0 y1 mu = some t) : W p l e rm6_hangs s m args below meth c H locs cells slots (MQ below (va_Qi (fun (r9 : Int32) (_ : Unit) => r9 = t.1) (fun _ t9 => cB D Y ad t.2 t9) (cA ad s.heap.size)) args s 960 5760 (cA ad s.heap.size)) (F0 m 383 ls [.int y0, .int y1]) := by
  obtain ⟨⟨hx, hb, hml, hown, hts⟩, hr, hlk, hK⟩ := id X
  replace hf : (if y1 = y0 then (if x8 = 1 then (f6_hangs_397 K158 x1 x3 x4 x5 x7 x8 x9 mu) else (if x10 = 0 then (f6_hangs_397 K158 x1 x3 x4 x5 x7 x8 x9 mu) else (f6_hangs_531 K158 x1 x3 x4 x5 x7 x8 x9 mu))) else (f6_hangs_531 K158 x1 x3 x4 x5 x7 x8 x9 mu)) = some t := hf
  refine lv_icmp_ne (tgt := 531) hx hb dL_hangs_383 (by decide) (fun c1 => ?_) (fun c1 => ?_)
  · have hf := it_f c1 hf
    exact w6_hangs_531 X hI hl0 hZ (kb := kb) (by omega) (K158 := K158) hK158 hH ⟨by omega, by omega⟩ (lv_sub hl [0, 1, 2, 3, 4, 5, 6, 7] rfl) hf
  · have hf := it_t c1 hf
    refine lv_iload hx hb dL_hangs_386 (lv_at hl 6 rfl) ?_
    refine lv_iconst (v := 1) hx hb dL_hangs_388 (by decide) ?_
    refine lv_icmp_eq (tgt := 397) hx hb dL_hangs_389 (by decide) (fun c2 => ?_) (fun c2 => ?_)
    · have hf := it_t c2 hf
      exact w6_hangs_397 X hI hl0 hZ (kb := kb) (by omega) (K158 := K158) hK158 hH ⟨by omega, by omega⟩ (lv_sub hl [0, 1, 2, 3, 4, 5, 6, 7] rfl) hf
    · have hf := it_f c2 hf
      refine lv_iload hx hb dL_hangs_392 (lv_at hl 8 rfl) ?_
      refine lv_if_ne (tgt := 531) hx hb dL_hangs_394 (by decide) (fun c3 => ?_) (fun c3 => ?_)
      · have hf := it_f c3 hf
        exact w6_hangs_531 X hI hl0 hZ (kb := kb) (by omega) (K158 := K158) hK158 hH ⟨by omega, by omega⟩ (lv_sub hl [0, 1, 2, 3, 4, 5, 6, 7] rfl) hf
      · have hf := it_t c3 hf
        exact w6_hangs_397 X hI hl0 hZ (kb := kb) (by omega) (K158 := K158) hK158 hH ⟨by omega, by omega⟩ (lv_sub hl [0, 1, 2, 3, 4, 5, 6, 7] rfl) hf
def f6_hangs_158 : Nat → Int32 → Int32 → Int32 → Int32 → Int32 → Int32 → (Nat → Nat → Int32) → Option (Int32 × (Nat → Nat → Int32))
  | 0, _, _, _, _, _, _, _ => none
  | n + 1, x1, x3, x4, x5, x6, x7, mu => if x1 ≤ x7 then (f6_hangs_681 x3 x4 x5 x6 mu) else (if x6 = 0 then (f6_hangs_681 x3 x4 x5 x6 mu) else (Option.bind (f6_carOf_0 mu x7 0) (fun t3 => Option.bind (f6_carOf_0 mu x7 4) (fun t4 => Option.bind (f6_carOf_0 mu x7 3) (fun t5 => Option.bind (f6_carOf_0 mu x7 6) (fun t6 => Option.bind (f6_cars_0 mu t3) (fun t7 => if ((t7 >>> (x7 &&& 31)) &&& 1) = 1 then (if t4 < 0 then (f6_hangs_531 (f6_hangs_158 n) x1 x3 x4 x5 x7 t3 t4 mu) else (if 300 < t4 then (f6_hangs_531 (f6_hangs_158 n) x1 x3 x4 x5 x7 t3 t4 mu) else (if t5 < 0 then (f6_hangs_531 (f6_hangs_158 n) x1 x3 x4 x5 x7 t3 t4 mu) else (if 40 < t5 then (f6_hangs_531 (f6_hangs_158 n) x1 x3 x4 x5 x7 t3 t4 mu) else (Option.bind (f6_carOf_0 mu x7 9) (fun t13 => if t13 < t5 then (f6_hangs_531 (f6_hangs_158 n) x1 x3 x4 x5 x7 t3 t4 mu) else (Option.bind (f6_carOf_0 mu x7 9) (fun t15 => if 40 < t15 then (f6_hangs_531 (f6_hangs_158 n) x1 x3 x4 x5 x7 t3 t4 mu) else (Option.bind (f6_carOf_0 mu x7 1) (fun t17 => if t17 < 0 then (f6_hangs_531 (f6_hangs_158 n) x1 x3 x4 x5 x7 t3 t4 mu) else (Option.bind (f6_carOf_0 mu x7 1) (fun t19 => if 20 < t19 then (f6_hangs_531 (f6_hangs_158 n) x1 x3 x4 x5 x7 t3 t4 mu) else (Option.bind (f6_carOf_0 mu x7 2) (fun t21 => if t21 < 0 then (f6_hangs_531 (f6_hangs_158 n) x1 x3 x4 x5 x7 t3 t4 mu) else (Option.bind (f6_carOf_0 mu x7 2) (fun t23 => if 10 ≤ t23 then (f6_hangs_531 (f6_hangs_158 n) x1 x3 x4 x5 x7 t3 t4 mu) else (Option.bind (f6_carOf_0 mu x7 5) (fun t25 => if t25 < 0 then (f6_hangs_531 (f6_hangs_158 n) x1 x3 x4 x5 x7 t3 t4 mu) else (Option.bind (f6_carOf_0 mu x7 5) (fun t27 => if 200 < t27 then (f6_hangs_531 (f6_hangs_158 n) x1 x3 x4 x5 x7 t3 t4 mu) else (Option.bind (f6_carOf_0 mu x7 8) (fun t29 => if t29 < 0 then (f6_hangs_531 (f6_hangs_158 n) x1 x3 x4 x5 x7 t3 t4 mu) else (Option.bind (f6_carOf_0 mu x7 5) (fun t31 => if t31 ≤ 100 then (Option.bind (f6_carOf_0 mu x7 2) (fun t33 => f6_hangs_383 (f6_hangs_158 n) x1 x3 x4 x5 x7 t3 t4 t5 t33 t6 mu)) else (Option.bind (f6_carOf_0 mu x7 2) (fun t34 => f6_hangs_383 (f6_hangs_158 n) x1 x3 x4 x5 x7 t3 t4 t5 (t34 / 2) t6 mu)))))))))))))))))))))))))) else (f6_hangs_531 (f6_hangs_158 n) x1 x3 x4 x5 x7 t3 t4 mu))))))))
set_option maxRecDepth 100000 in
set_option maxHeartbeats 4000000 in
theorem w6_hangs_158 {p : Program} {l : Launch} {e : Env} {s : State} {m : MethodId} {args : Array Value} {below : List Frame} {meth : Method} {c : Code} {D : va_G} {Y : cYt} {ad : Nat → Nat} (X : cX D Y p s m args meth c cL_hangs 12 RL (some .boolean)) (hI : cInj ad) (hl0 : l.stackTraces = false) (hZ : lZ ad s.heap.size s)  {t : Int32 × (Nat → Nat → Int32)} :
    ∀ (n : Nat) (x1 : Int32) (x3 : Int32) (x4 : Int32) (x5 : Int32) (x6 : Int32) (x7 : Int32) (mu : Nat → Nat → Int32) (H : Heap) (locs : List Loc) (cells slots : Nat), cH D Y ad mu s H locs → cells + 3 * (n * 26 + 27) ≤ 960 ∧ slots + 18 * (n * 26 + 27) ≤ 5760 → ∀ (ls : Array Slot), lv_has ls 12 [(0, .ref (ad 150)), (1, .int x1), (3, .int x3), (4, .int x4), (5, .int x5), (6, .int x6), (7, .int x7)] → f6_hangs_158 n x1 x3 x4 x5 x6 x7 mu = some t → W p l e rm6_hangs s m args below meth c H locs cells slots (MQ below (va_Qi (fun (r9 : Int32) (_ : Unit) => r9 = t.1) (fun _ t9 => cB D Y ad t.2 t9) (cA ad s.heap.size)) args s 960 5760 (cA ad s.heap.size)) (F0 m 158 ls []) := by
  obtain ⟨⟨hx, hb, hml, hown, hts⟩, hr, hlk, hK⟩ := id X
  intro n
  induction n with
  | zero =>
    intro x1 x3 x4 x5 x6 x7 mu H locs cells slots hH hc ls hl hf
    cases hf
  | succ n ih =>
    intro x1 x3 x4 x5 x6 x7 mu H locs cells slots hH hc ls hl hf
    replace hf : (if x1 ≤ x7 then (f6_hangs_681 x3 x4 x5 x6 mu) else (if x6 = 0 then (f6_hangs_681 x3 x4 x5 x6 mu) else (Option.bind (f6_carOf_0 mu x7 0) (fun t3 => Option.bind (f6_carOf_0 mu x7 4) (fun t4 => Option.bind (f6_carOf_0 mu x7 3) (fun t5 => Option.bind (f6_carOf_0 mu x7 6) (fun t6 => Option.bind (f6_cars_0 mu t3) (fun t7 => if ((t7 >>> (x7 &&& 31)) &&& 1) = 1 then (if t4 < 0 then (f6_hangs_531 (f6_hangs_158 n) x1 x3 x4 x5 x7 t3 t4 mu) else (if 300 < t4 then (f6_hangs_531 (f6_hangs_158 n) x1 x3 x4 x5 x7 t3 t4 mu) else (if t5 < 0 then (f6_hangs_531 (f6_hangs_158 n) x1 x3 x4 x5 x7 t3 t4 mu) else (if 40 < t5 then (f6_hangs_531 (f6_hangs_158 n) x1 x3 x4 x5 x7 t3 t4 mu) else (Option.bind (f6_carOf_0 mu x7 9) (fun t13 => if t13 < t5 then (f6_hangs_531 (f6_hangs_158 n) x1 x3 x4 x5 x7 t3 t4 mu) else (Option.bind (f6_carOf_0 mu x7 9) (fun t15 => if 40 < t15 then (f6_hangs_531 (f6_hangs_158 n) x1 x3 x4 x5 x7 t3 t4 mu) else (Option.bind (f6_carOf_0 mu x7 1) (fun t17 => if t17 < 0 then (f6_hangs_531 (f6_hangs_158 n) x1 x3 x4 x5 x7 t3 t4 mu) else (Option.bind (f6_carOf_0 mu x7 1) (fun t19 => if 20 < t19 then (f6_hangs_531 (f6_hangs_158 n) x1 x3 x4 x5 x7 t3 t4 mu) else (Option.bind (f6_carOf_0 mu x7 2) (fun t21 => if t21 < 0 then (f6_hangs_531 (f6_hangs_158 n) x1 x3 x4 x5 x7 t3 t4 mu) else (Option.bind (f6_carOf_0 mu x7 2) (fun t23 => if 10 ≤ t23 then (f6_hangs_531 (f6_hangs_158 n) x1 x3 x4 x5 x7 t3 t4 mu) else (Option.bind (f6_carOf_0 mu x7 5) (fun t25 => if t25 < 0 then (f6_hangs_531 (f6_hangs_158 n) x1 x3 x4 x5 x7 t3 t4 mu) else (Option.bind (f6_carOf_0 mu x7 5) (fun t27 => if 200 < t27 then (f6_hangs_531 (f6_hangs_158 n) x1 x3 x4 x5 x7 t3 t4 mu) else (Option.bind (f6_carOf_0 mu x7 8) (fun t29 => if t29 < 0 then (f6_hangs_531 (f6_hangs_158 n) x1 x3 x4 x5 x7 t3 t4 mu) else (Option.bind (f6_carOf_0 mu x7 5) (fun t31 => if t31 ≤ 100 then (Option.bind (f6_carOf_0 mu x7 2) (fun t33 => f6_hangs_383 (f6_hangs_158 n) x1 x3 x4 x5 x7 t3 t4 t5 t33 t6 mu)) else (Option.bind (f6_carOf_0 mu x7 2) (fun t34 => f6_hangs_383 (f6_hangs_158 n) x1 x3 x4 x5 x7 t3 t4 t5 (t34 / 2) t6 mu)))))))))))))))))))))))))) else (f6_hangs_531 (f6_hangs_158 n) x1 x3 x4 x5 x7 t3 t4 mu))))))))) = some t := hf
    refine lv_iload hx hb dL_hangs_158 (lv_at hl 6 rfl) ?_
    refine lv_iload_n hx hb dL_hangs_160 rfl (lv_at hl 1 rfl) ?_
    refine lv_icmp_ge (tgt := 681) hx hb dL_hangs_161 (by decide) (fun c1 => ?_) (fun c1 => ?_)
    · have hf := it_t c1 hf
      exact w6_hangs_681 X hI hl0 hZ hH ⟨by omega, by omega⟩ (lv_sub hl [0, 2, 3, 4, 5] rfl) hf
    · have hf := it_f c1 hf
      refine lv_iload hx hb dL_hangs_164 (lv_at hl 5 rfl) ?_
      refine lv_if_eq (tgt := 681) hx hb dL_hangs_166 (by decide) (fun c2 => ?_) (fun c2 => ?_)
      · have hf := it_t c2 hf
        exact w6_hangs_681 X hI hl0 hZ hH ⟨by omega, by omega⟩ (lv_sub hl [0, 2, 3, 4, 5] rfl) hf
      · have hf := it_f c2 hf
        refine lv_aload_n hx hb dL_hangs_169 rfl (lv_at hl 0 rfl) ?_
        refine lv_iload hx hb dL_hangs_170 (lv_at hl 6 rfl) ?_
        refine lv_iconst (v := 0) hx hb dL_hangs_172 (by decide) ?_
        obtain ⟨t3, ht3, hf⟩ := bd_o hf
        refine kh (MC := 960) (MS := 5760) (As := [.ref (ad 150), .int x7, .int 0]) (rest := []) ⟨rfl, rfl⟩ X hZ hH (h6_carOf l hI hl0 _ x7 0 ht3) (vx_cwSW 3 hts qL_134 rfl rfl rfl (by decide +kernel) ⟨Nat.le_of_ble_eq_true rfl, Nat.le_of_ble_eq_true rfl⟩) rfl hl.1 rfl (Nat.le_of_ble_eq_true rfl) dL_hangs_173 ⟨by omega, by omega⟩ (fun H locs hH => ?_)
        refine lv_istore (lv' := [(8, .int t3), (0, .ref (ad 150)), (1, .int x1), (3, .int x3), (4, .int x4), (5, .int x5), (6, .int x6), (7, .int x7)]) hx hb dL_hangs_176 hl (by decide) rfl (fun ls hl => ?_)
        refine lv_aload_n hx hb dL_hangs_178 rfl (lv_at hl 1 rfl) ?_
        refine lv_iload hx hb dL_hangs_179 (lv_at hl 7 rfl) ?_
        refine lv_iconst (v := 4) hx hb dL_hangs_181 (by decide) ?_
        obtain ⟨t4, ht4, hf⟩ := bd_o hf
        refine kh (MC := 960) (MS := 5760) (As := [.ref (ad 150), .int x7, .int 4]) (rest := []) ⟨rfl, rfl⟩ X hZ hH (h6_carOf l hI hl0 _ x7 4 ht4) (vx_cwSW 3 hts qL_134 rfl rfl rfl (by decide +kernel) ⟨Nat.le_of_ble_eq_true rfl, Nat.le_of_ble_eq_true rfl⟩) rfl hl.1 rfl (Nat.le_of_ble_eq_true rfl) dL_hangs_182 ⟨by omega, by omega⟩ (fun H locs hH => ?_)
        refine lv_istore (lv' := [(9, .int t4), (8, .int t3), (0, .ref (ad 150)), (1, .int x1), (3, .int x3), (4, .int x4), (5, .int x5), (6, .int x6), (7, .int x7)]) hx hb dL_hangs_185 hl (by decide) rfl (fun ls hl => ?_)
        refine lv_aload_n hx hb dL_hangs_187 rfl (lv_at hl 2 rfl) ?_
        refine lv_iload hx hb dL_hangs_188 (lv_at hl 8 rfl) ?_
        refine lv_iconst (v := 3) hx hb dL_hangs_190 (by decide) ?_
        obtain ⟨t5, ht5, hf⟩ := bd_o hf
        refine kh (MC := 960) (MS := 5760) (As := [.ref (ad 150), .int x7, .int 3]) (rest := []) ⟨rfl, rfl⟩ X hZ hH (h6_carOf l hI hl0 _ x7 3 ht5) (vx_cwSW 3 hts qL_134 rfl rfl rfl (by decide +kernel) ⟨Nat.le_of_ble_eq_true rfl, Nat.le_of_ble_eq_true rfl⟩) rfl hl.1 rfl (Nat.le_of_ble_eq_true rfl) dL_hangs_191 ⟨by omega, by omega⟩ (fun H locs hH => ?_)
        refine lv_istore (lv' := [(10, .int t5), (9, .int t4), (8, .int t3), (0, .ref (ad 150)), (1, .int x1), (3, .int x3), (4, .int x4), (5, .int x5), (6, .int x6), (7, .int x7)]) hx hb dL_hangs_194 hl (by decide) rfl (fun ls hl => ?_)
        refine lv_aload_n hx hb dL_hangs_196 rfl (lv_at hl 3 rfl) ?_
        refine lv_iload hx hb dL_hangs_197 (lv_at hl 9 rfl) ?_
        refine lv_bipush (v := 6) hx hb dL_hangs_199 (by decide) ?_
        obtain ⟨t6, ht6, hf⟩ := bd_o hf
        refine kh (MC := 960) (MS := 5760) (As := [.ref (ad 150), .int x7, .int 6]) (rest := []) ⟨rfl, rfl⟩ X hZ hH (h6_carOf l hI hl0 _ x7 6 ht6) (vx_cwSW 3 hts qL_134 rfl rfl rfl (by decide +kernel) ⟨Nat.le_of_ble_eq_true rfl, Nat.le_of_ble_eq_true rfl⟩) rfl hl.1 rfl (Nat.le_of_ble_eq_true rfl) dL_hangs_201 ⟨by omega, by omega⟩ (fun H locs hH => ?_)
        refine lv_istore (lv' := [(11, .int t6), (10, .int t5), (9, .int t4), (8, .int t3), (0, .ref (ad 150)), (1, .int x1), (3, .int x3), (4, .int x4), (5, .int x5), (6, .int x6), (7, .int x7)]) hx hb dL_hangs_204 hl (by decide) rfl (fun ls hl => ?_)
        refine lv_aload_n hx hb dL_hangs_206 rfl (lv_at hl 4 rfl) ?_
        refine lv_iload hx hb dL_hangs_207 (lv_at hl 3 rfl) ?_
        obtain ⟨t7, ht7, hf⟩ := bd_o hf
        refine kh (MC := 960) (MS := 5760) (As := [.ref (ad 150), .int t3]) (rest := []) ⟨rfl, rfl⟩ X hZ hH (h6_cars l hI hl0 _ t3 ht7) (vx_cwSW 2 hts qL_132 rfl rfl rfl (by decide +kernel) ⟨Nat.le_of_ble_eq_true rfl, Nat.le_of_ble_eq_true rfl⟩) rfl hl.1 rfl (Nat.le_of_ble_eq_true rfl) dL_hangs_209 ⟨by omega, by omega⟩ (fun H locs hH => ?_)
        refine lv_iload hx hb dL_hangs_212 (lv_at hl 10 rfl) ?_
        refine lv_ishr hx hb dL_hangs_214 ?_
        refine lv_iconst (v := 1) hx hb dL_hangs_215 (by decide) ?_
        refine lv_iand hx hb dL_hangs_216 ?_
        refine lv_iconst (v := 1) hx hb dL_hangs_217 (by decide) ?_
        refine lv_icmp_ne (tgt := 531) hx hb dL_hangs_218 (by decide) (fun c8 => ?_) (fun c8 => ?_)
        · have hf := it_f c8 hf
          exact w6_hangs_531 X hI hl0 hZ (kb := n * 26 + 27) (by omega) (K158 := (f6_hangs_158 n)) ih hH ⟨by omega, by omega⟩ (lv_sub hl [4, 5, 6, 7, 8, 10, 3, 2] rfl) hf
        · have hf := it_t c8 hf
          refine lv_iload hx hb dL_hangs_221 (lv_at hl 2 rfl) ?_
          refine lv_if_lt (tgt := 531) hx hb dL_hangs_223 (by decide) (fun c9 => ?_) (fun c9 => ?_)
          · have hf := it_t c9 hf
            exact w6_hangs_531 X hI hl0 hZ (kb := n * 26 + 27) (by omega) (K158 := (f6_hangs_158 n)) ih hH ⟨by omega, by omega⟩ (lv_sub hl [4, 5, 6, 7, 8, 10, 3, 2] rfl) hf
          · have hf := it_f c9 hf
            refine lv_iload hx hb dL_hangs_226 (lv_at hl 2 rfl) ?_
            refine lv_sipush (v := 300) hx hb dL_hangs_228 (by decide) ?_
            refine lv_icmp_gt (tgt := 531) hx hb dL_hangs_231 (by decide) (fun c10 => ?_) (fun c10 => ?_)
            · have hf := it_t c10 hf
              exact w6_hangs_531 X hI hl0 hZ (kb := n * 26 + 27) (by omega) (K158 := (f6_hangs_158 n)) ih hH ⟨by omega, by omega⟩ (lv_sub hl [4, 5, 6, 7, 8, 10, 3, 2] rfl) hf
            · have hf := it_f c10 hf
              refine lv_iload hx hb dL_hangs_234 (lv_at hl 1 rfl) ?_
              refine lv_if_lt (tgt := 531) hx hb dL_hangs_236 (by decide) (fun c11 => ?_) (fun c11 => ?_)
              · have hf := it_t c11 hf
                exact w6_hangs_531 X hI hl0 hZ (kb := n * 26 + 27) (by omega) (K158 := (f6_hangs_158 n)) ih hH ⟨by omega, by omega⟩ (lv_sub hl [4, 5, 6, 7, 8, 10, 3, 2] rfl) hf
              · have hf := it_f c11 hf
                refine lv_iload hx hb dL_hangs_239 (lv_at hl 1 rfl) ?_
                refine lv_bipush (v := 40) hx hb dL_hangs_241 (by decide) ?_
                refine lv_icmp_gt (tgt := 531) hx hb dL_hangs_243 (by decide) (fun c12 => ?_) (fun c12 => ?_)
                · have hf := it_t c12 hf
                  exact w6_hangs_531 X hI hl0 hZ (kb := n * 26 + 27) (by omega) (K158 := (f6_hangs_158 n)) ih hH ⟨by omega, by omega⟩ (lv_sub hl [4, 5, 6, 7, 8, 10, 3, 2] rfl) hf
                · have hf := it_f c12 hf
                  refine lv_aload_n hx hb dL_hangs_246 rfl (lv_at hl 4 rfl) ?_
                  refine lv_iload hx hb dL_hangs_247 (lv_at hl 10 rfl) ?_
                  refine lv_bipush (v := 9) hx hb dL_hangs_249 (by decide) ?_
                  obtain ⟨t13, ht13, hf⟩ := bd_o hf
                  refine kh (MC := 960) (MS := 5760) (As := [.ref (ad 150), .int x7, .int 9]) (rest := []) ⟨rfl, rfl⟩ X hZ hH (h6_carOf l hI hl0 _ x7 9 ht13) (vx_cwSW 3 hts qL_134 rfl rfl rfl (by decide +kernel) ⟨Nat.le_of_ble_eq_true rfl, Nat.le_of_ble_eq_true rfl⟩) rfl hl.1 rfl (Nat.le_of_ble_eq_true rfl) dL_hangs_251 ⟨by omega, by omega⟩ (fun H locs hH => ?_)
                  refine lv_iload hx hb dL_hangs_254 (lv_at hl 1 rfl) ?_
                  refine lv_icmp_lt (tgt := 531) hx hb dL_hangs_256 (by decide) (fun c14 => ?_) (fun c14 => ?_)
                  · have hf := it_t c14 hf
                    exact w6_hangs_531 X hI hl0 hZ (kb := n * 26 + 27) (by omega) (K158 := (f6_hangs_158 n)) ih hH ⟨by omega, by omega⟩ (lv_sub hl [4, 5, 6, 7, 8, 10, 3, 2] rfl) hf
                  · have hf := it_f c14 hf
                    refine lv_aload_n hx hb dL_hangs_259 rfl (lv_at hl 4 rfl) ?_
                    refine lv_iload hx hb dL_hangs_260 (lv_at hl 10 rfl) ?_
                    refine lv_bipush (v := 9) hx hb dL_hangs_262 (by decide) ?_
                    obtain ⟨t15, ht15, hf⟩ := bd_o hf
                    refine kh (MC := 960) (MS := 5760) (As := [.ref (ad 150), .int x7, .int 9]) (rest := []) ⟨rfl, rfl⟩ X hZ hH (h6_carOf l hI hl0 _ x7 9 ht15) (vx_cwSW 3 hts qL_134 rfl rfl rfl (by decide +kernel) ⟨Nat.le_of_ble_eq_true rfl, Nat.le_of_ble_eq_true rfl⟩) rfl hl.1 rfl (Nat.le_of_ble_eq_true rfl) dL_hangs_264 ⟨by omega, by omega⟩ (fun H locs hH => ?_)
                    refine lv_bipush (v := 40) hx hb dL_hangs_267 (by decide) ?_
                    refine lv_icmp_gt (tgt := 531) hx hb dL_hangs_269 (by decide) (fun c16 => ?_) (fun c16 => ?_)
                    · have hf := it_t c16 hf
                      exact w6_hangs_531 X hI hl0 hZ (kb := n * 26 + 27) (by omega) (K158 := (f6_hangs_158 n)) ih hH ⟨by omega, by omega⟩ (lv_sub hl [4, 5, 6, 7, 8, 10, 3, 2] rfl) hf
                    · have hf := it_f c16 hf
                      refine lv_aload_n hx hb dL_hangs_272 rfl (lv_at hl 4 rfl) ?_
                      refine lv_iload hx hb dL_hangs_273 (lv_at hl 10 rfl) ?_
                      refine lv_iconst (v := 1) hx hb dL_hangs_275 (by decide) ?_
                      obtain ⟨t17, ht17, hf⟩ := bd_o hf
                      refine kh (MC := 960) (MS := 5760) (As := [.ref (ad 150), .int x7, .int 1]) (rest := []) ⟨rfl, rfl⟩ X hZ hH (h6_carOf l hI hl0 _ x7 1 ht17) (vx_cwSW 3 hts qL_134 rfl rfl rfl (by decide +kernel) ⟨Nat.le_of_ble_eq_true rfl, Nat.le_of_ble_eq_true rfl⟩) rfl hl.1 rfl (Nat.le_of_ble_eq_true rfl) dL_hangs_276 ⟨by omega, by omega⟩ (fun H locs hH => ?_)
                      refine lv_if_lt (tgt := 531) hx hb dL_hangs_279 (by decide) (fun c18 => ?_) (fun c18 => ?_)
                      · have hf := it_t c18 hf
                        exact w6_hangs_531 X hI hl0 hZ (kb := n * 26 + 27) (by omega) (K158 := (f6_hangs_158 n)) ih hH ⟨by omega, by omega⟩ (lv_sub hl [4, 5, 6, 7, 8, 10, 3, 2] rfl) hf
                      · have hf := it_f c18 hf
                        refine lv_aload_n hx hb dL_hangs_282 rfl (lv_at hl 4 rfl) ?_
                        refine lv_iload hx hb dL_hangs_283 (lv_at hl 10 rfl) ?_
                        refine lv_iconst (v := 1) hx hb dL_hangs_285 (by decide) ?_
                        obtain ⟨t19, ht19, hf⟩ := bd_o hf
                        refine kh (MC := 960) (MS := 5760) (As := [.ref (ad 150), .int x7, .int 1]) (rest := []) ⟨rfl, rfl⟩ X hZ hH (h6_carOf l hI hl0 _ x7 1 ht19) (vx_cwSW 3 hts qL_134 rfl rfl rfl (by decide +kernel) ⟨Nat.le_of_ble_eq_true rfl, Nat.le_of_ble_eq_true rfl⟩) rfl hl.1 rfl (Nat.le_of_ble_eq_true rfl) dL_hangs_286 ⟨by omega, by omega⟩ (fun H locs hH => ?_)
                        refine lv_bipush (v := 20) hx hb dL_hangs_289 (by decide) ?_
                        refine lv_icmp_gt (tgt := 531) hx hb dL_hangs_291 (by decide) (fun c20 => ?_) (fun c20 => ?_)
                        · have hf := it_t c20 hf
                          exact w6_hangs_531 X hI hl0 hZ (kb := n * 26 + 27) (by omega) (K158 := (f6_hangs_158 n)) ih hH ⟨by omega, by omega⟩ (lv_sub hl [4, 5, 6, 7, 8, 10, 3, 2] rfl) hf
                        · have hf := it_f c20 hf
                          refine lv_aload_n hx hb dL_hangs_294 rfl (lv_at hl 4 rfl) ?_
                          refine lv_iload hx hb dL_hangs_295 (lv_at hl 10 rfl) ?_
                          refine lv_iconst (v := 2) hx hb dL_hangs_297 (by decide) ?_
                          obtain ⟨t21, ht21, hf⟩ := bd_o hf
                          refine kh (MC := 960) (MS := 5760) (As := [.ref (ad 150), .int x7, .int 2]) (rest := []) ⟨rfl, rfl⟩ X hZ hH (h6_carOf l hI hl0 _ x7 2 ht21) (vx_cwSW 3 hts qL_134 rfl rfl rfl (by decide +kernel) ⟨Nat.le_of_ble_eq_true rfl, Nat.le_of_ble_eq_true rfl⟩) rfl hl.1 rfl (Nat.le_of_ble_eq_true rfl) dL_hangs_298 ⟨by omega, by omega⟩ (fun H locs hH => ?_)
                          refine lv_if_lt (tgt := 531) hx hb dL_hangs_301 (by decide) (fun c22 => ?_) (fun c22 => ?_)
                          · have hf := it_t c22 hf
                            exact w6_hangs_531 X hI hl0 hZ (kb := n * 26 + 27) (by omega) (K158 := (f6_hangs_158 n)) ih hH ⟨by omega, by omega⟩ (lv_sub hl [4, 5, 6, 7, 8, 10, 3, 2] rfl) hf
                          · have hf := it_f c22 hf
                            refine lv_aload_n hx hb dL_hangs_304 rfl (lv_at hl 4 rfl) ?_
                            refine lv_iload hx hb dL_hangs_305 (lv_at hl 10 rfl) ?_
                            refine lv_iconst (v := 2) hx hb dL_hangs_307 (by decide) ?_
                            obtain ⟨t23, ht23, hf⟩ := bd_o hf
                            refine kh (MC := 960) (MS := 5760) (As := [.ref (ad 150), .int x7, .int 2]) (rest := []) ⟨rfl, rfl⟩ X hZ hH (h6_carOf l hI hl0 _ x7 2 ht23) (vx_cwSW 3 hts qL_134 rfl rfl rfl (by decide +kernel) ⟨Nat.le_of_ble_eq_true rfl, Nat.le_of_ble_eq_true rfl⟩) rfl hl.1 rfl (Nat.le_of_ble_eq_true rfl) dL_hangs_308 ⟨by omega, by omega⟩ (fun H locs hH => ?_)
                            refine lv_bipush (v := 10) hx hb dL_hangs_311 (by decide) ?_
                            refine lv_icmp_ge (tgt := 531) hx hb dL_hangs_313 (by decide) (fun c24 => ?_) (fun c24 => ?_)
                            · have hf := it_t c24 hf
                              exact w6_hangs_531 X hI hl0 hZ (kb := n * 26 + 27) (by omega) (K158 := (f6_hangs_158 n)) ih hH ⟨by omega, by omega⟩ (lv_sub hl [4, 5, 6, 7, 8, 10, 3, 2] rfl) hf
                            · have hf := it_f c24 hf
                              refine lv_aload_n hx hb dL_hangs_316 rfl (lv_at hl 4 rfl) ?_
                              refine lv_iload hx hb dL_hangs_317 (lv_at hl 10 rfl) ?_
                              refine lv_iconst (v := 5) hx hb dL_hangs_319 (by decide) ?_
                              obtain ⟨t25, ht25, hf⟩ := bd_o hf
                              refine kh (MC := 960) (MS := 5760) (As := [.ref (ad 150), .int x7, .int 5]) (rest := []) ⟨rfl, rfl⟩ X hZ hH (h6_carOf l hI hl0 _ x7 5 ht25) (vx_cwSW 3 hts qL_134 rfl rfl rfl (by decide +kernel) ⟨Nat.le_of_ble_eq_true rfl, Nat.le_of_ble_eq_true rfl⟩) rfl hl.1 rfl (Nat.le_of_ble_eq_true rfl) dL_hangs_320 ⟨by omega, by omega⟩ (fun H locs hH => ?_)
                              refine lv_if_lt (tgt := 531) hx hb dL_hangs_323 (by decide) (fun c26 => ?_) (fun c26 => ?_)
                              · have hf := it_t c26 hf
                                exact w6_hangs_531 X hI hl0 hZ (kb := n * 26 + 27) (by omega) (K158 := (f6_hangs_158 n)) ih hH ⟨by omega, by omega⟩ (lv_sub hl [4, 5, 6, 7, 8, 10, 3, 2] rfl) hf
                              · have hf := it_f c26 hf
                                refine lv_aload_n hx hb dL_hangs_326 rfl (lv_at hl 4 rfl) ?_
                                refine lv_iload hx hb dL_hangs_327 (lv_at hl 10 rfl) ?_
                                refine lv_iconst (v := 5) hx hb dL_hangs_329 (by decide) ?_
                                obtain ⟨t27, ht27, hf⟩ := bd_o hf
                                refine kh (MC := 960) (MS := 5760) (As := [.ref (ad 150), .int x7, .int 5]) (rest := []) ⟨rfl, rfl⟩ X hZ hH (h6_carOf l hI hl0 _ x7 5 ht27) (vx_cwSW 3 hts qL_134 rfl rfl rfl (by decide +kernel) ⟨Nat.le_of_ble_eq_true rfl, Nat.le_of_ble_eq_true rfl⟩) rfl hl.1 rfl (Nat.le_of_ble_eq_true rfl) dL_hangs_330 ⟨by omega, by omega⟩ (fun H locs hH => ?_)
                                refine lv_sipush (v := 200) hx hb dL_hangs_333 (by decide) ?_
                                refine lv_icmp_gt (tgt := 531) hx hb dL_hangs_336 (by decide) (fun c28 => ?_) (fun c28 => ?_)
                                · have hf := it_t c28 hf
                                  exact w6_hangs_531 X hI hl0 hZ (kb := n * 26 + 27) (by omega) (K158 := (f6_hangs_158 n)) ih hH ⟨by omega, by omega⟩ (lv_sub hl [4, 5, 6, 7, 8, 10, 3, 2] rfl) hf
                                · have hf := it_f c28 hf
                                  refine lv_aload_n hx hb dL_hangs_339 rfl (lv_at hl 4 rfl) ?_
                                  refine lv_iload hx hb dL_hangs_340 (lv_at hl 10 rfl) ?_
                                  refine lv_bipush (v := 8) hx hb dL_hangs_342 (by decide) ?_
                                  obtain ⟨t29, ht29, hf⟩ := bd_o hf
                                  refine kh (MC := 960) (MS := 5760) (As := [.ref (ad 150), .int x7, .int 8]) (rest := []) ⟨rfl, rfl⟩ X hZ hH (h6_carOf l hI hl0 _ x7 8 ht29) (vx_cwSW 3 hts qL_134 rfl rfl rfl (by decide +kernel) ⟨Nat.le_of_ble_eq_true rfl, Nat.le_of_ble_eq_true rfl⟩) rfl hl.1 rfl (Nat.le_of_ble_eq_true rfl) dL_hangs_344 ⟨by omega, by omega⟩ (fun H locs hH => ?_)
                                  refine lv_if_lt (tgt := 531) hx hb dL_hangs_347 (by decide) (fun c30 => ?_) (fun c30 => ?_)
                                  · have hf := it_t c30 hf
                                    exact w6_hangs_531 X hI hl0 hZ (kb := n * 26 + 27) (by omega) (K158 := (f6_hangs_158 n)) ih hH ⟨by omega, by omega⟩ (lv_sub hl [4, 5, 6, 7, 8, 10, 3, 2] rfl) hf
                                  · have hf := it_f c30 hf
                                    refine lv_iload hx hb dL_hangs_350 (lv_at hl 0 rfl) ?_
                                    refine lv_aload_n hx hb dL_hangs_352 rfl (lv_at hl 4 rfl) ?_
                                    refine lv_iload hx hb dL_hangs_353 (lv_at hl 10 rfl) ?_
                                    refine lv_iconst (v := 5) hx hb dL_hangs_355 (by decide) ?_
                                    obtain ⟨t31, ht31, hf⟩ := bd_o hf
                                    refine kh (MC := 960) (MS := 5760) (As := [.ref (ad 150), .int x7, .int 5]) (rest := [.int t6]) ⟨rfl, rfl⟩ X hZ hH (h6_carOf l hI hl0 _ x7 5 ht31) (vx_cwSW 3 hts qL_134 rfl rfl rfl (by decide +kernel) ⟨Nat.le_of_ble_eq_true rfl, Nat.le_of_ble_eq_true rfl⟩) rfl hl.1 rfl (Nat.le_of_ble_eq_true rfl) dL_hangs_356 ⟨by omega, by omega⟩ (fun H locs hH => ?_)
                                    refine lv_bipush (v := 100) hx hb dL_hangs_359 (by decide) ?_
                                    refine lv_icmp_le (tgt := 376) hx hb dL_hangs_361 (by decide) (fun c32 => ?_) (fun c32 => ?_)
                                    · have hf := it_t c32 hf
                                      refine lv_aload_n hx hb dL_hangs_376 rfl (lv_at hl 4 rfl) ?_
                                      refine lv_iload hx hb dL_hangs_377 (lv_at hl 10 rfl) ?_
                                      refine lv_iconst (v := 2) hx hb dL_hangs_379 (by decide) ?_
                                      obtain ⟨t33, ht33, hf⟩ := bd_o hf
                                      refine kh (MC := 960) (MS := 5760) (As := [.ref (ad 150), .int x7, .int 2]) (rest := [.int t6]) ⟨rfl, rfl⟩ X hZ hH (h6_carOf l hI hl0 _ x7 2 ht33) (vx_cwSW 3 hts qL_134 rfl rfl rfl (by decide +kernel) ⟨Nat.le_of_ble_eq_true rfl, Nat.le_of_ble_eq_true rfl⟩) rfl hl.1 rfl (Nat.le_of_ble_eq_true rfl) dL_hangs_380 ⟨by omega, by omega⟩ (fun H locs hH => ?_)
                                      exact w6_hangs_383 X hI hl0 hZ (kb := n * 26 + 27) (by omega) (K158 := (f6_hangs_158 n)) ih hH ⟨by omega, by omega⟩ (lv_sub hl [4, 5, 6, 7, 8, 10, 3, 2, 1] rfl) hf
                                    · have hf := it_f c32 hf
                                      refine lv_aload_n hx hb dL_hangs_364 rfl (lv_at hl 4 rfl) ?_
                                      refine lv_iload hx hb dL_hangs_365 (lv_at hl 10 rfl) ?_
                                      refine lv_iconst (v := 2) hx hb dL_hangs_367 (by decide) ?_
                                      obtain ⟨t34, ht34, hf⟩ := bd_o hf
                                      refine kh (MC := 960) (MS := 5760) (As := [.ref (ad 150), .int x7, .int 2]) (rest := [.int t6]) ⟨rfl, rfl⟩ X hZ hH (h6_carOf l hI hl0 _ x7 2 ht34) (vx_cwSW 3 hts qL_134 rfl rfl rfl (by decide +kernel) ⟨Nat.le_of_ble_eq_true rfl, Nat.le_of_ble_eq_true rfl⟩) rfl hl.1 rfl (Nat.le_of_ble_eq_true rfl) dL_hangs_368 ⟨by omega, by omega⟩ (fun H locs hH => ?_)
                                      refine lv_iconst (v := 2) hx hb dL_hangs_371 (by decide) ?_
                                      refine lv_idiv hx hb dL_hangs_372 (by decide) ?_
                                      refine lv_goto (tgt := 383) hx hb dL_hangs_373 (by decide) ?_
                                      exact w6_hangs_383 X hI hl0 hZ (kb := n * 26 + 27) (by omega) (K158 := (f6_hangs_158 n)) ih hH ⟨by omega, by omega⟩ (lv_sub hl [4, 5, 6, 7, 8, 10, 3, 2, 1] rfl) hf
def f6_hangs_153 (x1 : Int32) (x3 : Int32) (x4 : Int32) (x5 : Int32) (y0 : Int32) (mu : Nat → Nat → Int32) : Option (Int32 × (Nat → Nat → Int32)) := f6_hangs_158 10 x1 x3 x4 x5 y0 0 mu
set_option maxRecDepth 100000 in
set_option maxHeartbeats 4000000 in
theorem w6_hangs_153 {p : Program} {l : Launch} {e : Env} {s : State} {m : MethodId} {args : Array Value} {below : List Frame} {meth : Method} {c : Code} {D : va_G} {Y : cYt} {ad : Nat → Nat} {mu : Nat → Nat → Int32} (X : cX D Y p s m args meth c cL_hangs 12 RL (some .boolean)) (hI : cInj ad) (hl0 : l.stackTraces = false) (hZ : lZ ad s.heap.size s)  {x1 : Int32} {x3 : Int32} {x4 : Int32} {x5 : Int32} {y0 : Int32} {t : Int32 × (Nat → Nat → Int32)} {H : Heap} {locs : List Loc} (hH : cH D Y ad mu s H locs) {cells slots : Nat} (hc : cells + 3 * (287) ≤ 960 ∧ slots + 18 * (287) ≤ 5760) {ls : Array Slot} (hl : lv_has ls 12 [(0, .ref (ad 150)), (1, .int x1), (3, .int x3), (4, .int x4), (5, .int x5)]) (hf : f6_hangs_153 x1 x3 x4 x5 y0 mu = some t) : W p l e rm6_hangs s m args below meth c H locs cells slots (MQ below (va_Qi (fun (r9 : Int32) (_ : Unit) => r9 = t.1) (fun _ t9 => cB D Y ad t.2 t9) (cA ad s.heap.size)) args s 960 5760 (cA ad s.heap.size)) (F0 m 153 ls [.int y0]) := by
  obtain ⟨⟨hx, hb, hml, hown, hts⟩, hr, hlk, hK⟩ := id X
  replace hf : (f6_hangs_158 10 x1 x3 x4 x5 y0 0 mu) = some t := hf
  refine lv_istore (lv' := [(6, .int y0), (0, .ref (ad 150)), (1, .int x1), (3, .int x3), (4, .int x4), (5, .int x5)]) hx hb dL_hangs_153 hl (by decide) rfl (fun ls hl => ?_)
  refine lv_iconst (v := 0) hx hb dL_hangs_155 (by decide) ?_
  refine lv_istore (lv' := [(7, .int 0), (6, .int y0), (0, .ref (ad 150)), (1, .int x1), (3, .int x3), (4, .int x4), (5, .int x5)]) hx hb dL_hangs_156 hl (by decide) rfl (fun ls hl => ?_)
  exact w6_hangs_158 X hI hl0 hZ 10 _ _ _ _ _ _ _ _ _ _ _ hH ⟨by omega, by omega⟩ _ (lv_sub hl [2, 3, 4, 5, 6, 1, 0] rfl) hf
def f6_hangs_152 (x1 : Int32) (x3 : Int32) (x4 : Int32) (x5 : Int32) (mu : Nat → Nat → Int32) : Option (Int32 × (Nat → Nat → Int32)) := f6_hangs_153 x1 x3 x4 x5 0 mu
set_option maxRecDepth 100000 in
set_option maxHeartbeats 4000000 in
theorem w6_hangs_152 {p : Program} {l : Launch} {e : Env} {s : State} {m : MethodId} {args : Array Value} {below : List Frame} {meth : Method} {c : Code} {D : va_G} {Y : cYt} {ad : Nat → Nat} {mu : Nat → Nat → Int32} (X : cX D Y p s m args meth c cL_hangs 12 RL (some .boolean)) (hI : cInj ad) (hl0 : l.stackTraces = false) (hZ : lZ ad s.heap.size s)  {x1 : Int32} {x3 : Int32} {x4 : Int32} {x5 : Int32} {t : Int32 × (Nat → Nat → Int32)} {H : Heap} {locs : List Loc} (hH : cH D Y ad mu s H locs) {cells slots : Nat} (hc : cells + 3 * (287) ≤ 960 ∧ slots + 18 * (287) ≤ 5760) {ls : Array Slot} (hl : lv_has ls 12 [(0, .ref (ad 150)), (1, .int x1), (3, .int x3), (4, .int x4), (5, .int x5)]) (hf : f6_hangs_152 x1 x3 x4 x5 mu = some t) : W p l e rm6_hangs s m args below meth c H locs cells slots (MQ below (va_Qi (fun (r9 : Int32) (_ : Unit) => r9 = t.1) (fun _ t9 => cB D Y ad t.2 t9) (cA ad s.heap.size)) args s 960 5760 (cA ad s.heap.size)) (F0 m 152 ls []) := by
  obtain ⟨⟨hx, hb, hml, hown, hts⟩, hr, hlk, hK⟩ := id X
  replace hf : (f6_hangs_153 x1 x3 x4 x5 0 mu) = some t := hf
  refine lv_iconst (v := 0) hx hb dL_hangs_152 (by decide) ?_
  exact w6_hangs_153 X hI hl0 hZ hH ⟨by omega, by omega⟩ (lv_sub hl [0, 1, 2, 3, 4] rfl) hf
def f6_hangs_134 (x1 : Int32) (x2 : Int32) (x3 : Int32) (x4 : Int32) (x5 : Int32) (x6 : Int32) (mu : Nat → Nat → Int32) : Option (Int32 × (Nat → Nat → Int32)) := if x6 = 0 then (f6_hangs_152 x1 x3 x4 x5 mu) else (if x2 = ((1 <<< (x1 &&& 31)) - 1) then (f6_hangs_153 x1 x3 x4 x5 1 mu) else (f6_hangs_152 x1 x3 x4 x5 mu))
set_option maxRecDepth 100000 in
set_option maxHeartbeats 4000000 in
theorem w6_hangs_134 {p : Program} {l : Launch} {e : Env} {s : State} {m : MethodId} {args : Array Value} {below : List Frame} {meth : Method} {c : Code} {D : va_G} {Y : cYt} {ad : Nat → Nat} {mu : Nat → Nat → Int32} (X : cX D Y p s m args meth c cL_hangs 12 RL (some .boolean)) (hI : cInj ad) (hl0 : l.stackTraces = false) (hZ : lZ ad s.heap.size s)  {x1 : Int32} {x2 : Int32} {x3 : Int32} {x4 : Int32} {x5 : Int32} {x6 : Int32} {t : Int32 × (Nat → Nat → Int32)} {H : Heap} {locs : List Loc} (hH : cH D Y ad mu s H locs) {cells slots : Nat} (hc : cells + 3 * (287) ≤ 960 ∧ slots + 18 * (287) ≤ 5760) {ls : Array Slot} (hl : lv_has ls 12 [(0, .ref (ad 150)), (1, .int x1), (2, .int x2), (3, .int x3), (4, .int x4), (5, .int x5), (6, .int x6)]) (hf : f6_hangs_134 x1 x2 x3 x4 x5 x6 mu = some t) : W p l e rm6_hangs s m args below meth c H locs cells slots (MQ below (va_Qi (fun (r9 : Int32) (_ : Unit) => r9 = t.1) (fun _ t9 => cB D Y ad t.2 t9) (cA ad s.heap.size)) args s 960 5760 (cA ad s.heap.size)) (F0 m 134 ls []) := by
  obtain ⟨⟨hx, hb, hml, hown, hts⟩, hr, hlk, hK⟩ := id X
  replace hf : (if x6 = 0 then (f6_hangs_152 x1 x3 x4 x5 mu) else (if x2 = ((1 <<< (x1 &&& 31)) - 1) then (f6_hangs_153 x1 x3 x4 x5 1 mu) else (f6_hangs_152 x1 x3 x4 x5 mu))) = some t := hf
  refine lv_iload hx hb dL_hangs_134 (lv_at hl 6 rfl) ?_
  refine lv_if_eq (tgt := 152) hx hb dL_hangs_136 (by decide) (fun c1 => ?_) (fun c1 => ?_)
  · have hf := it_t c1 hf
    exact w6_hangs_152 X hI hl0 hZ hH ⟨by omega, by omega⟩ (lv_sub hl [0, 1, 3, 4, 5] rfl) hf
  · have hf := it_f c1 hf
    refine lv_iload_n hx hb dL_hangs_139 rfl (lv_at hl 2 rfl) ?_
    refine lv_iconst (v := 1) hx hb dL_hangs_140 (by decide) ?_
    refine lv_iload_n hx hb dL_hangs_141 rfl (lv_at hl 1 rfl) ?_
    refine lv_ishl hx hb dL_hangs_142 ?_
    refine lv_iconst (v := 1) hx hb dL_hangs_143 (by decide) ?_
    refine lv_isub hx hb dL_hangs_144 ?_
    refine lv_icmp_ne (tgt := 152) hx hb dL_hangs_145 (by decide) (fun c2 => ?_) (fun c2 => ?_)
    · have hf := it_f c2 hf
      exact w6_hangs_152 X hI hl0 hZ hH ⟨by omega, by omega⟩ (lv_sub hl [0, 1, 3, 4, 5] rfl) hf
    · have hf := it_t c2 hf
      refine lv_iconst (v := 1) hx hb dL_hangs_148 (by decide) ?_
      refine lv_goto (tgt := 153) hx hb dL_hangs_149 (by decide) ?_
      exact w6_hangs_153 X hI hl0 hZ hH ⟨by omega, by omega⟩ (lv_sub hl [0, 1, 3, 4, 5] rfl) hf
def f6_hangs_117 (K81 : Int32 → Int32 → Int32 → Int32 → Int32 → Int32 → Int32 → (Nat → Nat → Int32) → (Option (Int32 × (Nat → Nat → Int32)))) (x1 : Int32) (x2 : Int32) (x3 : Int32) (x4 : Int32) (x5 : Int32) (x7 : Int32) (y0 : Int32) (mu : Nat → Nat → Int32) : Option (Int32 × (Nat → Nat → Int32)) := Option.bind (f6_cars_0 mu x7) (fun t1 => K81 x1 (x2 ||| t1) x3 x4 x5 y0 (x7 + 1) mu)
set_option maxRecDepth 100000 in
set_option maxHeartbeats 4000000 in
theorem w6_hangs_117 {p : Program} {l : Launch} {e : Env} {s : State} {m : MethodId} {args : Array Value} {below : List Frame} {meth : Method} {c : Code} {D : va_G} {Y : cYt} {ad : Nat → Nat} {mu : Nat → Nat → Int32} (X : cX D Y p s m args meth c cL_hangs 12 RL (some .boolean)) (hI : cInj ad) (hl0 : l.stackTraces = false) (hZ : lZ ad s.heap.size s)  {x1 : Int32} {x2 : Int32} {x3 : Int32} {x4 : Int32} {x5 : Int32} {x7 : Int32} {y0 : Int32} {t : Int32 × (Nat → Nat → Int32)} {kb : Nat} (hkb : 284 ≤ kb) {K81 : Int32 → Int32 → Int32 → Int32 → Int32 → Int32 → Int32 → (Nat → Nat → Int32) → (Option (Int32 × (Nat → Nat → Int32)))} (hK81 : ∀ (x1 : Int32) (x2 : Int32) (x3 : Int32) (x4 : Int32) (x5 : Int32) (x6 : Int32) (x7 : Int32) (mu : Nat → Nat → Int32) (H : Heap) (locs : List Loc) (cells slots : Nat), cH D Y ad mu s H locs → cells + 3 * (kb) ≤ 960 ∧ slots + 18 * (kb) ≤ 5760 → ∀ (ls : Array Slot), lv_has ls 12 [(0, .ref (ad 150)), (1, .int x1), (2, .int x2), (3, .int x3), (4, .int x4), (5, .int x5), (6, .int x6), (7, .int x7)] → K81 x1 x2 x3 x4 x5 x6 x7 mu = some t → W p l e rm6_hangs s m args below meth c H locs cells slots (MQ below (va_Qi (fun (r9 : Int32) (_ : Unit) => r9 = t.1) (fun _ t9 => cB D Y ad t.2 t9) (cA ad s.heap.size)) args s 960 5760 (cA ad s.heap.size)) (F0 m 81 ls [])) {H : Heap} {locs : List Loc} (hH : cH D Y ad mu s H locs) {cells slots : Nat} (hc : cells + 3 * (1 + kb) ≤ 960 ∧ slots + 18 * (1 + kb) ≤ 5760) {ls : Array Slot} (hl : lv_has ls 12 [(0, .ref (ad 150)), (1, .int x1), (2, .int x2), (3, .int x3), (4, .int x4), (5, .int x5), (7, .int x7)]) (hf : f6_hangs_117 K81 x1 x2 x3 x4 x5 x7 y0 mu = some t) : W p l e rm6_hangs s m args below meth c H locs cells slots (MQ below (va_Qi (fun (r9 : Int32) (_ : Unit) => r9 = t.1) (fun _ t9 => cB D Y ad t.2 t9) (cA ad s.heap.size)) args s 960 5760 (cA ad s.heap.size)) (F0 m 117 ls [.int y0]) := by
  obtain ⟨⟨hx, hb, hml, hown, hts⟩, hr, hlk, hK⟩ := id X
  replace hf : (Option.bind (f6_cars_0 mu x7) (fun t1 => K81 x1 (x2 ||| t1) x3 x4 x5 y0 (x7 + 1) mu)) = some t := hf
  refine lv_istore (lv' := [(6, .int y0), (0, .ref (ad 150)), (1, .int x1), (2, .int x2), (3, .int x3), (4, .int x4), (5, .int x5), (7, .int x7)]) hx hb dL_hangs_117 hl (by decide) rfl (fun ls hl => ?_)
  refine lv_iload_n hx hb dL_hangs_119 rfl (lv_at hl 3 rfl) ?_
  refine lv_aload_n hx hb dL_hangs_120 rfl (lv_at hl 1 rfl) ?_
  refine lv_iload hx hb dL_hangs_121 (lv_at hl 7 rfl) ?_
  obtain ⟨t1, ht1, hf⟩ := bd_o hf
  refine kh (MC := 960) (MS := 5760) (As := [.ref (ad 150), .int x7]) (rest := [.int x2]) ⟨rfl, rfl⟩ X hZ hH (h6_cars l hI hl0 _ x7 ht1) (vx_cwSW 2 hts qL_132 rfl rfl rfl (by decide +kernel) ⟨Nat.le_of_ble_eq_true rfl, Nat.le_of_ble_eq_true rfl⟩) rfl hl.1 rfl (Nat.le_of_ble_eq_true rfl) dL_hangs_123 ⟨by omega, by omega⟩ (fun H locs hH => ?_)
  refine lv_ior hx hb dL_hangs_126 ?_
  refine lv_istore_n (lv' := [(2, .int (x2 ||| t1)), (6, .int y0), (0, .ref (ad 150)), (1, .int x1), (3, .int x3), (4, .int x4), (5, .int x5), (7, .int x7)]) hx hb dL_hangs_127 rfl hl (by decide) rfl (fun ls hl => ?_)
  refine lv_iinc (v := x7 + 1) (lv' := [(7, .int (x7 + 1)), (2, .int (x2 ||| t1)), (6, .int y0), (0, .ref (ad 150)), (1, .int x1), (3, .int x3), (4, .int x4), (5, .int x5)]) hx hb dL_hangs_128 hl (k := 7) rfl rfl (by decide) rfl (fun ls hl => ?_)
  refine lv_goto (tgt := 81) hx hb dL_hangs_131 (by decide) ?_
  exact hK81 _ _ _ _ _ _ _ _ _ _ _ _ hH ⟨by omega, by omega⟩ _ (lv_sub hl [3, 4, 1, 5, 6, 7, 2, 0] rfl) hf
def f6_hangs_116 (K81 : Int32 → Int32 → Int32 → Int32 → Int32 → Int32 → Int32 → (Nat → Nat → Int32) → (Option (Int32 × (Nat → Nat → Int32)))) (x1 : Int32) (x2 : Int32) (x3 : Int32) (x4 : Int32) (x5 : Int32) (x7 : Int32) (mu : Nat → Nat → Int32) : Option (Int32 × (Nat → Nat → Int32)) := f6_hangs_117 K81 x1 x2 x3 x4 x5 x7 0 mu
set_option maxRecDepth 100000 in
set_option maxHeartbeats 4000000 in
theorem w6_hangs_116 {p : Program} {l : Launch} {e : Env} {s : State} {m : MethodId} {args : Array Value} {below : List Frame} {meth : Method} {c : Code} {D : va_G} {Y : cYt} {ad : Nat → Nat} {mu : Nat → Nat → Int32} (X : cX D Y p s m args meth c cL_hangs 12 RL (some .boolean)) (hI : cInj ad) (hl0 : l.stackTraces = false) (hZ : lZ ad s.heap.size s)  {x1 : Int32} {x2 : Int32} {x3 : Int32} {x4 : Int32} {x5 : Int32} {x7 : Int32} {t : Int32 × (Nat → Nat → Int32)} {kb : Nat} (hkb : 284 ≤ kb) {K81 : Int32 → Int32 → Int32 → Int32 → Int32 → Int32 → Int32 → (Nat → Nat → Int32) → (Option (Int32 × (Nat → Nat → Int32)))} (hK81 : ∀ (x1 : Int32) (x2 : Int32) (x3 : Int32) (x4 : Int32) (x5 : Int32) (x6 : Int32) (x7 : Int32) (mu : Nat → Nat → Int32) (H : Heap) (locs : List Loc) (cells slots : Nat), cH D Y ad mu s H locs → cells + 3 * (kb) ≤ 960 ∧ slots + 18 * (kb) ≤ 5760 → ∀ (ls : Array Slot), lv_has ls 12 [(0, .ref (ad 150)), (1, .int x1), (2, .int x2), (3, .int x3), (4, .int x4), (5, .int x5), (6, .int x6), (7, .int x7)] → K81 x1 x2 x3 x4 x5 x6 x7 mu = some t → W p l e rm6_hangs s m args below meth c H locs cells slots (MQ below (va_Qi (fun (r9 : Int32) (_ : Unit) => r9 = t.1) (fun _ t9 => cB D Y ad t.2 t9) (cA ad s.heap.size)) args s 960 5760 (cA ad s.heap.size)) (F0 m 81 ls [])) {H : Heap} {locs : List Loc} (hH : cH D Y ad mu s H locs) {cells slots : Nat} (hc : cells + 3 * (1 + kb) ≤ 960 ∧ slots + 18 * (1 + kb) ≤ 5760) {ls : Array Slot} (hl : lv_has ls 12 [(0, .ref (ad 150)), (1, .int x1), (2, .int x2), (3, .int x3), (4, .int x4), (5, .int x5), (7, .int x7)]) (hf : f6_hangs_116 K81 x1 x2 x3 x4 x5 x7 mu = some t) : W p l e rm6_hangs s m args below meth c H locs cells slots (MQ below (va_Qi (fun (r9 : Int32) (_ : Unit) => r9 = t.1) (fun _ t9 => cB D Y ad t.2 t9) (cA ad s.heap.size)) args s 960 5760 (cA ad s.heap.size)) (F0 m 116 ls []) := by
  obtain ⟨⟨hx, hb, hml, hown, hts⟩, hr, hlk, hK⟩ := id X
  replace hf : (f6_hangs_117 K81 x1 x2 x3 x4 x5 x7 0 mu) = some t := hf
  refine lv_iconst (v := 0) hx hb dL_hangs_116 (by decide) ?_
  exact w6_hangs_117 X hI hl0 hZ (kb := kb) (by omega) (K81 := K81) hK81 hH ⟨by omega, by omega⟩ (lv_sub hl [0, 1, 2, 3, 4, 5, 6] rfl) hf
def f6_hangs_81 : Nat → Int32 → Int32 → Int32 → Int32 → Int32 → Int32 → Int32 → (Nat → Nat → Int32) → Option (Int32 × (Nat → Nat → Int32))
  | 0, _, _, _, _, _, _, _, _ => none
  | n + 1, x1, x2, x3, x4, x5, x6, x7, mu => if 5 ≤ x7 then (f6_hangs_134 x1 x2 x3 x4 x5 x6 mu) else (if x6 = 0 then (f6_hangs_134 x1 x2 x3 x4 x5 x6 mu) else (Option.bind (f6_cars_0 mu x7) (fun t3 => if t3 < 0 then (f6_hangs_116 (f6_hangs_81 n) x1 x2 x3 x4 x5 x7 mu) else (Option.bind (f6_cars_0 mu x7) (fun t5 => if (t5 &&& x2) = 0 then (f6_hangs_117 (f6_hangs_81 n) x1 x2 x3 x4 x5 x7 1 mu) else (f6_hangs_116 (f6_hangs_81 n) x1 x2 x3 x4 x5 x7 mu))))))
set_option maxRecDepth 100000 in
set_option maxHeartbeats 4000000 in
theorem w6_hangs_81 {p : Program} {l : Launch} {e : Env} {s : State} {m : MethodId} {args : Array Value} {below : List Frame} {meth : Method} {c : Code} {D : va_G} {Y : cYt} {ad : Nat → Nat} (X : cX D Y p s m args meth c cL_hangs 12 RL (some .boolean)) (hI : cInj ad) (hl0 : l.stackTraces = false) (hZ : lZ ad s.heap.size s)  {t : Int32 × (Nat → Nat → Int32)} :
    ∀ (n : Nat) (x1 : Int32) (x2 : Int32) (x3 : Int32) (x4 : Int32) (x5 : Int32) (x6 : Int32) (x7 : Int32) (mu : Nat → Nat → Int32) (H : Heap) (locs : List Loc) (cells slots : Nat), cH D Y ad mu s H locs → cells + 3 * (n * 3 + 284) ≤ 960 ∧ slots + 18 * (n * 3 + 284) ≤ 5760 → ∀ (ls : Array Slot), lv_has ls 12 [(0, .ref (ad 150)), (1, .int x1), (2, .int x2), (3, .int x3), (4, .int x4), (5, .int x5), (6, .int x6), (7, .int x7)] → f6_hangs_81 n x1 x2 x3 x4 x5 x6 x7 mu = some t → W p l e rm6_hangs s m args below meth c H locs cells slots (MQ below (va_Qi (fun (r9 : Int32) (_ : Unit) => r9 = t.1) (fun _ t9 => cB D Y ad t.2 t9) (cA ad s.heap.size)) args s 960 5760 (cA ad s.heap.size)) (F0 m 81 ls []) := by
  obtain ⟨⟨hx, hb, hml, hown, hts⟩, hr, hlk, hK⟩ := id X
  intro n
  induction n with
  | zero =>
    intro x1 x2 x3 x4 x5 x6 x7 mu H locs cells slots hH hc ls hl hf
    cases hf
  | succ n ih =>
    intro x1 x2 x3 x4 x5 x6 x7 mu H locs cells slots hH hc ls hl hf
    replace hf : (if 5 ≤ x7 then (f6_hangs_134 x1 x2 x3 x4 x5 x6 mu) else (if x6 = 0 then (f6_hangs_134 x1 x2 x3 x4 x5 x6 mu) else (Option.bind (f6_cars_0 mu x7) (fun t3 => if t3 < 0 then (f6_hangs_116 (f6_hangs_81 n) x1 x2 x3 x4 x5 x7 mu) else (Option.bind (f6_cars_0 mu x7) (fun t5 => if (t5 &&& x2) = 0 then (f6_hangs_117 (f6_hangs_81 n) x1 x2 x3 x4 x5 x7 1 mu) else (f6_hangs_116 (f6_hangs_81 n) x1 x2 x3 x4 x5 x7 mu))))))) = some t := hf
    refine lv_iload hx hb dL_hangs_81 (lv_at hl 7 rfl) ?_
    refine lv_iconst (v := 5) hx hb dL_hangs_83 (by decide) ?_
    refine lv_icmp_ge (tgt := 134) hx hb dL_hangs_84 (by decide) (fun c1 => ?_) (fun c1 => ?_)
    · have hf := it_t c1 hf
      exact w6_hangs_134 X hI hl0 hZ hH ⟨by omega, by omega⟩ (lv_sub hl [0, 1, 2, 3, 4, 5, 6] rfl) hf
    · have hf := it_f c1 hf
      refine lv_iload hx hb dL_hangs_87 (lv_at hl 6 rfl) ?_
      refine lv_if_eq (tgt := 134) hx hb dL_hangs_89 (by decide) (fun c2 => ?_) (fun c2 => ?_)
      · have hf := it_t c2 hf
        exact w6_hangs_134 X hI hl0 hZ hH ⟨by omega, by omega⟩ (lv_sub hl [0, 1, 2, 3, 4, 5, 6] rfl) hf
      · have hf := it_f c2 hf
        refine lv_aload_n hx hb dL_hangs_92 rfl (lv_at hl 0 rfl) ?_
        refine lv_iload hx hb dL_hangs_93 (lv_at hl 7 rfl) ?_
        obtain ⟨t3, ht3, hf⟩ := bd_o hf
        refine kh (MC := 960) (MS := 5760) (As := [.ref (ad 150), .int x7]) (rest := []) ⟨rfl, rfl⟩ X hZ hH (h6_cars l hI hl0 _ x7 ht3) (vx_cwSW 2 hts qL_132 rfl rfl rfl (by decide +kernel) ⟨Nat.le_of_ble_eq_true rfl, Nat.le_of_ble_eq_true rfl⟩) rfl hl.1 rfl (Nat.le_of_ble_eq_true rfl) dL_hangs_95 ⟨by omega, by omega⟩ (fun H locs hH => ?_)
        refine lv_if_lt (tgt := 116) hx hb dL_hangs_98 (by decide) (fun c4 => ?_) (fun c4 => ?_)
        · have hf := it_t c4 hf
          exact w6_hangs_116 X hI hl0 hZ (kb := n * 3 + 284) (by omega) (K81 := (f6_hangs_81 n)) ih hH ⟨by omega, by omega⟩ (lv_sub hl [0, 1, 2, 3, 4, 5, 7] rfl) hf
        · have hf := it_f c4 hf
          refine lv_aload_n hx hb dL_hangs_101 rfl (lv_at hl 0 rfl) ?_
          refine lv_iload hx hb dL_hangs_102 (lv_at hl 7 rfl) ?_
          obtain ⟨t5, ht5, hf⟩ := bd_o hf
          refine kh (MC := 960) (MS := 5760) (As := [.ref (ad 150), .int x7]) (rest := []) ⟨rfl, rfl⟩ X hZ hH (h6_cars l hI hl0 _ x7 ht5) (vx_cwSW 2 hts qL_132 rfl rfl rfl (by decide +kernel) ⟨Nat.le_of_ble_eq_true rfl, Nat.le_of_ble_eq_true rfl⟩) rfl hl.1 rfl (Nat.le_of_ble_eq_true rfl) dL_hangs_104 ⟨by omega, by omega⟩ (fun H locs hH => ?_)
          refine lv_iload_n hx hb dL_hangs_107 rfl (lv_at hl 2 rfl) ?_
          refine lv_iand hx hb dL_hangs_108 ?_
          refine lv_if_ne (tgt := 116) hx hb dL_hangs_109 (by decide) (fun c6 => ?_) (fun c6 => ?_)
          · have hf := it_f c6 hf
            exact w6_hangs_116 X hI hl0 hZ (kb := n * 3 + 284) (by omega) (K81 := (f6_hangs_81 n)) ih hH ⟨by omega, by omega⟩ (lv_sub hl [0, 1, 2, 3, 4, 5, 7] rfl) hf
          · have hf := it_t c6 hf
            refine lv_iconst (v := 1) hx hb dL_hangs_112 (by decide) ?_
            refine lv_goto (tgt := 117) hx hb dL_hangs_113 (by decide) ?_
            exact w6_hangs_117 X hI hl0 hZ (kb := n * 3 + 284) (by omega) (K81 := (f6_hangs_81 n)) ih hH ⟨by omega, by omega⟩ (lv_sub hl [0, 1, 2, 3, 4, 5, 7] rfl) hf
def f6_hangs_76 (x1 : Int32) (x2 : Int32) (x3 : Int32) (x4 : Int32) (x5 : Int32) (y0 : Int32) (mu : Nat → Nat → Int32) : Option (Int32 × (Nat → Nat → Int32)) := f6_hangs_81 10 x1 x2 x3 x4 x5 y0 0 mu
set_option maxRecDepth 100000 in
set_option maxHeartbeats 4000000 in
theorem w6_hangs_76 {p : Program} {l : Launch} {e : Env} {s : State} {m : MethodId} {args : Array Value} {below : List Frame} {meth : Method} {c : Code} {D : va_G} {Y : cYt} {ad : Nat → Nat} {mu : Nat → Nat → Int32} (X : cX D Y p s m args meth c cL_hangs 12 RL (some .boolean)) (hI : cInj ad) (hl0 : l.stackTraces = false) (hZ : lZ ad s.heap.size s)  {x1 : Int32} {x2 : Int32} {x3 : Int32} {x4 : Int32} {x5 : Int32} {y0 : Int32} {t : Int32 × (Nat → Nat → Int32)} {H : Heap} {locs : List Loc} (hH : cH D Y ad mu s H locs) {cells slots : Nat} (hc : cells + 3 * (314) ≤ 960 ∧ slots + 18 * (314) ≤ 5760) {ls : Array Slot} (hl : lv_has ls 12 [(0, .ref (ad 150)), (1, .int x1), (2, .int x2), (3, .int x3), (4, .int x4), (5, .int x5)]) (hf : f6_hangs_76 x1 x2 x3 x4 x5 y0 mu = some t) : W p l e rm6_hangs s m args below meth c H locs cells slots (MQ below (va_Qi (fun (r9 : Int32) (_ : Unit) => r9 = t.1) (fun _ t9 => cB D Y ad t.2 t9) (cA ad s.heap.size)) args s 960 5760 (cA ad s.heap.size)) (F0 m 76 ls [.int y0]) := by
  obtain ⟨⟨hx, hb, hml, hown, hts⟩, hr, hlk, hK⟩ := id X
  replace hf : (f6_hangs_81 10 x1 x2 x3 x4 x5 y0 0 mu) = some t := hf
  refine lv_istore (lv' := [(6, .int y0), (0, .ref (ad 150)), (1, .int x1), (2, .int x2), (3, .int x3), (4, .int x4), (5, .int x5)]) hx hb dL_hangs_76 hl (by decide) rfl (fun ls hl => ?_)
  refine lv_iconst (v := 0) hx hb dL_hangs_78 (by decide) ?_
  refine lv_istore (lv' := [(7, .int 0), (6, .int y0), (0, .ref (ad 150)), (1, .int x1), (2, .int x2), (3, .int x3), (4, .int x4), (5, .int x5)]) hx hb dL_hangs_79 hl (by decide) rfl (fun ls hl => ?_)
  exact w6_hangs_81 X hI hl0 hZ 10 _ _ _ _ _ _ _ _ _ _ _ _ hH ⟨by omega, by omega⟩ _ (lv_sub hl [2, 3, 4, 5, 6, 7, 1, 0] rfl) hf
def f6_hangs_75 (x1 : Int32) (x2 : Int32) (x3 : Int32) (x4 : Int32) (x5 : Int32) (mu : Nat → Nat → Int32) : Option (Int32 × (Nat → Nat → Int32)) := f6_hangs_76 x1 x2 x3 x4 x5 0 mu
set_option maxRecDepth 100000 in
set_option maxHeartbeats 4000000 in
theorem w6_hangs_75 {p : Program} {l : Launch} {e : Env} {s : State} {m : MethodId} {args : Array Value} {below : List Frame} {meth : Method} {c : Code} {D : va_G} {Y : cYt} {ad : Nat → Nat} {mu : Nat → Nat → Int32} (X : cX D Y p s m args meth c cL_hangs 12 RL (some .boolean)) (hI : cInj ad) (hl0 : l.stackTraces = false) (hZ : lZ ad s.heap.size s)  {x1 : Int32} {x2 : Int32} {x3 : Int32} {x4 : Int32} {x5 : Int32} {t : Int32 × (Nat → Nat → Int32)} {H : Heap} {locs : List Loc} (hH : cH D Y ad mu s H locs) {cells slots : Nat} (hc : cells + 3 * (314) ≤ 960 ∧ slots + 18 * (314) ≤ 5760) {ls : Array Slot} (hl : lv_has ls 12 [(0, .ref (ad 150)), (1, .int x1), (2, .int x2), (3, .int x3), (4, .int x4), (5, .int x5)]) (hf : f6_hangs_75 x1 x2 x3 x4 x5 mu = some t) : W p l e rm6_hangs s m args below meth c H locs cells slots (MQ below (va_Qi (fun (r9 : Int32) (_ : Unit) => r9 = t.1) (fun _ t9 => cB D Y ad t.2 t9) (cA ad s.heap.size)) args s 960 5760 (cA ad s.heap.size)) (F0 m 75 ls []) := by
  obtain ⟨⟨hx, hb, hml, hown, hts⟩, hr, hlk, hK⟩ := id X
  replace hf : (f6_hangs_76 x1 x2 x3 x4 x5 0 mu) = some t := hf
  refine lv_iconst (v := 0) hx hb dL_hangs_75 (by decide) ?_
  exact w6_hangs_76 X hI hl0 hZ hH ⟨by omega, by omega⟩ (lv_sub hl [0, 1, 2, 3, 4, 5] rfl) hf
def f6_hangs_0 (mu : Nat → Nat → Int32) : Option (Int32 × (Nat → Nat → Int32)) := Option.bind (f6_count_0 mu 1) (fun t1 => if t1 < 0 then (f6_hangs_75 t1 0 0 0 0 mu) else (if 8 < t1 then (f6_hangs_75 t1 0 0 0 0 mu) else (Option.bind (f6_count_0 mu 0) (fun t4 => if t4 < 0 then (f6_hangs_75 t1 0 0 0 0 mu) else (Option.bind (f6_count_0 mu 2) (fun t6 => if t6 < 0 then (f6_hangs_75 t1 0 0 0 0 mu) else (Option.bind (f6_count_0 mu 2) (fun t8 => if 4 < t8 then (f6_hangs_75 t1 0 0 0 0 mu) else (Option.bind (f6_count_0 mu 9) (fun t10 => if t10 < 0 then (f6_hangs_75 t1 0 0 0 0 mu) else (Option.bind (f6_count_0 mu 9) (fun t12 => if 7 ≤ t12 then (f6_hangs_75 t1 0 0 0 0 mu) else (f6_hangs_76 t1 0 0 0 0 1 mu)))))))))))))
set_option maxRecDepth 100000 in
set_option maxHeartbeats 4000000 in
theorem w6_hangs_0 {p : Program} {l : Launch} {e : Env} {s : State} {m : MethodId} {args : Array Value} {below : List Frame} {meth : Method} {c : Code} {D : va_G} {Y : cYt} {ad : Nat → Nat} {mu : Nat → Nat → Int32} (X : cX D Y p s m args meth c cL_hangs 12 RL (some .boolean)) (hI : cInj ad) (hl0 : l.stackTraces = false) (hZ : lZ ad s.heap.size s)  {t : Int32 × (Nat → Nat → Int32)} {H : Heap} {locs : List Loc} (hH : cH D Y ad mu s H locs) {cells slots : Nat} (hc : cells + 3 * (320) ≤ 960 ∧ slots + 18 * (320) ≤ 5760) {ls : Array Slot} (hl : lv_has ls 12 [(0, .ref (ad 150))]) (hf : f6_hangs_0 mu = some t) : W p l e rm6_hangs s m args below meth c H locs cells slots (MQ below (va_Qi (fun (r9 : Int32) (_ : Unit) => r9 = t.1) (fun _ t9 => cB D Y ad t.2 t9) (cA ad s.heap.size)) args s 960 5760 (cA ad s.heap.size)) (F0 m 0 ls []) := by
  obtain ⟨⟨hx, hb, hml, hown, hts⟩, hr, hlk, hK⟩ := id X
  replace hf : (Option.bind (f6_count_0 mu 1) (fun t1 => if t1 < 0 then (f6_hangs_75 t1 0 0 0 0 mu) else (if 8 < t1 then (f6_hangs_75 t1 0 0 0 0 mu) else (Option.bind (f6_count_0 mu 0) (fun t4 => if t4 < 0 then (f6_hangs_75 t1 0 0 0 0 mu) else (Option.bind (f6_count_0 mu 2) (fun t6 => if t6 < 0 then (f6_hangs_75 t1 0 0 0 0 mu) else (Option.bind (f6_count_0 mu 2) (fun t8 => if 4 < t8 then (f6_hangs_75 t1 0 0 0 0 mu) else (Option.bind (f6_count_0 mu 9) (fun t10 => if t10 < 0 then (f6_hangs_75 t1 0 0 0 0 mu) else (Option.bind (f6_count_0 mu 9) (fun t12 => if 7 ≤ t12 then (f6_hangs_75 t1 0 0 0 0 mu) else (f6_hangs_76 t1 0 0 0 0 1 mu)))))))))))))) = some t := hf
  refine lv_aload_n hx hb dL_hangs_0 rfl (lv_at hl 0 rfl) ?_
  refine lv_iconst (v := 1) hx hb dL_hangs_1 (by decide) ?_
  obtain ⟨t1, ht1, hf⟩ := bd_o hf
  refine kh (MC := 960) (MS := 5760) (As := [.ref (ad 150), .int 1]) (rest := []) ⟨rfl, rfl⟩ X hZ hH (h6_count l hI hl0 _ 1 ht1) (vx_cwSW 2 hts qL_91 rfl rfl rfl (by decide +kernel) ⟨Nat.le_of_ble_eq_true rfl, Nat.le_of_ble_eq_true rfl⟩) rfl hl.1 rfl (Nat.le_of_ble_eq_true rfl) dL_hangs_2 ⟨by omega, by omega⟩ (fun H locs hH => ?_)
  refine lv_istore_n (lv' := [(1, .int t1), (0, .ref (ad 150))]) hx hb dL_hangs_5 rfl hl (by decide) rfl (fun ls hl => ?_)
  refine lv_iconst (v := 0) hx hb dL_hangs_6 (by decide) ?_
  refine lv_istore_n (lv' := [(2, .int 0), (1, .int t1), (0, .ref (ad 150))]) hx hb dL_hangs_7 rfl hl (by decide) rfl (fun ls hl => ?_)
  refine lv_iconst (v := 0) hx hb dL_hangs_8 (by decide) ?_
  refine lv_istore_n (lv' := [(3, .int 0), (2, .int 0), (1, .int t1), (0, .ref (ad 150))]) hx hb dL_hangs_9 rfl hl (by decide) rfl (fun ls hl => ?_)
  refine lv_iconst (v := 0) hx hb dL_hangs_10 (by decide) ?_
  refine lv_istore (lv' := [(4, .int 0), (3, .int 0), (2, .int 0), (1, .int t1), (0, .ref (ad 150))]) hx hb dL_hangs_11 hl (by decide) rfl (fun ls hl => ?_)
  refine lv_iconst (v := 0) hx hb dL_hangs_13 (by decide) ?_
  refine lv_istore (lv' := [(5, .int 0), (4, .int 0), (3, .int 0), (2, .int 0), (1, .int t1), (0, .ref (ad 150))]) hx hb dL_hangs_14 hl (by decide) rfl (fun ls hl => ?_)
  refine lv_iload_n hx hb dL_hangs_16 rfl (lv_at hl 4 rfl) ?_
  refine lv_if_lt (tgt := 75) hx hb dL_hangs_17 (by decide) (fun c2 => ?_) (fun c2 => ?_)
  · have hf := it_t c2 hf
    exact w6_hangs_75 X hI hl0 hZ hH ⟨by omega, by omega⟩ (lv_sub hl [5, 4, 3, 2, 1, 0] rfl) hf
  · have hf := it_f c2 hf
    refine lv_iload_n hx hb dL_hangs_20 rfl (lv_at hl 4 rfl) ?_
    refine lv_bipush (v := 8) hx hb dL_hangs_21 (by decide) ?_
    refine lv_icmp_gt (tgt := 75) hx hb dL_hangs_23 (by decide) (fun c3 => ?_) (fun c3 => ?_)
    · have hf := it_t c3 hf
      exact w6_hangs_75 X hI hl0 hZ hH ⟨by omega, by omega⟩ (lv_sub hl [5, 4, 3, 2, 1, 0] rfl) hf
    · have hf := it_f c3 hf
      refine lv_aload_n hx hb dL_hangs_26 rfl (lv_at hl 5 rfl) ?_
      refine lv_iconst (v := 0) hx hb dL_hangs_27 (by decide) ?_
      obtain ⟨t4, ht4, hf⟩ := bd_o hf
      refine kh (MC := 960) (MS := 5760) (As := [.ref (ad 150), .int 0]) (rest := []) ⟨rfl, rfl⟩ X hZ hH (h6_count l hI hl0 _ 0 ht4) (vx_cwSW 2 hts qL_91 rfl rfl rfl (by decide +kernel) ⟨Nat.le_of_ble_eq_true rfl, Nat.le_of_ble_eq_true rfl⟩) rfl hl.1 rfl (Nat.le_of_ble_eq_true rfl) dL_hangs_28 ⟨by omega, by omega⟩ (fun H locs hH => ?_)
      refine lv_if_lt (tgt := 75) hx hb dL_hangs_31 (by decide) (fun c5 => ?_) (fun c5 => ?_)
      · have hf := it_t c5 hf
        exact w6_hangs_75 X hI hl0 hZ hH ⟨by omega, by omega⟩ (lv_sub hl [5, 4, 3, 2, 1, 0] rfl) hf
      · have hf := it_f c5 hf
        refine lv_aload_n hx hb dL_hangs_34 rfl (lv_at hl 5 rfl) ?_
        refine lv_iconst (v := 2) hx hb dL_hangs_35 (by decide) ?_
        obtain ⟨t6, ht6, hf⟩ := bd_o hf
        refine kh (MC := 960) (MS := 5760) (As := [.ref (ad 150), .int 2]) (rest := []) ⟨rfl, rfl⟩ X hZ hH (h6_count l hI hl0 _ 2 ht6) (vx_cwSW 2 hts qL_91 rfl rfl rfl (by decide +kernel) ⟨Nat.le_of_ble_eq_true rfl, Nat.le_of_ble_eq_true rfl⟩) rfl hl.1 rfl (Nat.le_of_ble_eq_true rfl) dL_hangs_36 ⟨by omega, by omega⟩ (fun H locs hH => ?_)
        refine lv_if_lt (tgt := 75) hx hb dL_hangs_39 (by decide) (fun c7 => ?_) (fun c7 => ?_)
        · have hf := it_t c7 hf
          exact w6_hangs_75 X hI hl0 hZ hH ⟨by omega, by omega⟩ (lv_sub hl [5, 4, 3, 2, 1, 0] rfl) hf
        · have hf := it_f c7 hf
          refine lv_aload_n hx hb dL_hangs_42 rfl (lv_at hl 5 rfl) ?_
          refine lv_iconst (v := 2) hx hb dL_hangs_43 (by decide) ?_
          obtain ⟨t8, ht8, hf⟩ := bd_o hf
          refine kh (MC := 960) (MS := 5760) (As := [.ref (ad 150), .int 2]) (rest := []) ⟨rfl, rfl⟩ X hZ hH (h6_count l hI hl0 _ 2 ht8) (vx_cwSW 2 hts qL_91 rfl rfl rfl (by decide +kernel) ⟨Nat.le_of_ble_eq_true rfl, Nat.le_of_ble_eq_true rfl⟩) rfl hl.1 rfl (Nat.le_of_ble_eq_true rfl) dL_hangs_44 ⟨by omega, by omega⟩ (fun H locs hH => ?_)
          refine lv_iconst (v := 4) hx hb dL_hangs_47 (by decide) ?_
          refine lv_icmp_gt (tgt := 75) hx hb dL_hangs_48 (by decide) (fun c9 => ?_) (fun c9 => ?_)
          · have hf := it_t c9 hf
            exact w6_hangs_75 X hI hl0 hZ hH ⟨by omega, by omega⟩ (lv_sub hl [5, 4, 3, 2, 1, 0] rfl) hf
          · have hf := it_f c9 hf
            refine lv_aload_n hx hb dL_hangs_51 rfl (lv_at hl 5 rfl) ?_
            refine lv_bipush (v := 9) hx hb dL_hangs_52 (by decide) ?_
            obtain ⟨t10, ht10, hf⟩ := bd_o hf
            refine kh (MC := 960) (MS := 5760) (As := [.ref (ad 150), .int 9]) (rest := []) ⟨rfl, rfl⟩ X hZ hH (h6_count l hI hl0 _ 9 ht10) (vx_cwSW 2 hts qL_91 rfl rfl rfl (by decide +kernel) ⟨Nat.le_of_ble_eq_true rfl, Nat.le_of_ble_eq_true rfl⟩) rfl hl.1 rfl (Nat.le_of_ble_eq_true rfl) dL_hangs_54 ⟨by omega, by omega⟩ (fun H locs hH => ?_)
            refine lv_if_lt (tgt := 75) hx hb dL_hangs_57 (by decide) (fun c11 => ?_) (fun c11 => ?_)
            · have hf := it_t c11 hf
              exact w6_hangs_75 X hI hl0 hZ hH ⟨by omega, by omega⟩ (lv_sub hl [5, 4, 3, 2, 1, 0] rfl) hf
            · have hf := it_f c11 hf
              refine lv_aload_n hx hb dL_hangs_60 rfl (lv_at hl 5 rfl) ?_
              refine lv_bipush (v := 9) hx hb dL_hangs_61 (by decide) ?_
              obtain ⟨t12, ht12, hf⟩ := bd_o hf
              refine kh (MC := 960) (MS := 5760) (As := [.ref (ad 150), .int 9]) (rest := []) ⟨rfl, rfl⟩ X hZ hH (h6_count l hI hl0 _ 9 ht12) (vx_cwSW 2 hts qL_91 rfl rfl rfl (by decide +kernel) ⟨Nat.le_of_ble_eq_true rfl, Nat.le_of_ble_eq_true rfl⟩) rfl hl.1 rfl (Nat.le_of_ble_eq_true rfl) dL_hangs_63 ⟨by omega, by omega⟩ (fun H locs hH => ?_)
              refine lv_bipush (v := 7) hx hb dL_hangs_66 (by decide) ?_
              refine lv_icmp_ge (tgt := 75) hx hb dL_hangs_68 (by decide) (fun c13 => ?_) (fun c13 => ?_)
              · have hf := it_t c13 hf
                exact w6_hangs_75 X hI hl0 hZ hH ⟨by omega, by omega⟩ (lv_sub hl [5, 4, 3, 2, 1, 0] rfl) hf
              · have hf := it_f c13 hf
                refine lv_iconst (v := 1) hx hb dL_hangs_71 (by decide) ?_
                refine lv_goto (tgt := 76) hx hb dL_hangs_72 (by decide) ?_
                exact w6_hangs_76 X hI hl0 hZ hH ⟨by omega, by omega⟩ (lv_sub hl [5, 4, 3, 2, 1, 0] rfl) hf
set_option maxRecDepth 100000 in
set_option maxHeartbeats 4000000 in
theorem c6_hangs (l : Launch) {D : va_G} {Y : cYt} {ad : Nat → Nat} {mu : Nat → Nat → Int32} (hI : cInj ad) (hl0 : l.stackTraces = false) (sz : Nat) {t : Int32 × (Nat → Nat → Int32)} (hf : f6_hangs_0 mu = some t) : Met l yL_hangs uL_hangs rm6_hangs (va_Pc [.ref (ad 150)] (fun U => U.heap.size = sz ∧ lZ ad sz U ∧ cB D Y ad mu U)) (va_Qi (fun (r9 : Int32) (_ : Unit) => r9 = t.1) (fun _ t9 => cB D Y ad t.2 t9) (cA ad sz)) 960 5760 (cA ad sz) := by
  refine Met.ofW (cc := cL_hangs) (maxL := 12) (ret := (some .boolean)) (by decide) rfl ?_
  intro p e s m args below meth c s₁ B hml hv
  obtain ⟨rfl, hsz, hz, hP, hK⟩ := hv
  subst hsz
  have X : cX D Y p s m ([.ref (ad 150)] : List Value).toArray meth c cL_hangs 12 RL (some .boolean) := ⟨⟨B.exec, B.bytes, hml, findClass_of_methodNamed B.named, fun w h => atoms_spec (ws := uL_hangs) B.pre w (List.mem_cons_of_mem _ h)⟩, B.returns, B.notSynchronized, hK⟩
  have hl := lv_entry ([.ref (ad 150)]) (n := 12) (Nat.le_of_ble_eq_true rfl)
  rw [lg_entry_eq]
  generalize (lg_sl ([.ref (ad 150)]) ++ List.replicate (12 - (lg_sl ([.ref (ad 150)])).length) Slot.unset).toArray = ls at hl ⊢
  have hl : lv_has ls 12 [(0, .ref (ad 150))] := hl
  exact w6_hangs_0 X hI hl0 hz ⟨hP, va_S.rf⟩ ⟨Nat.le_of_ble_eq_true rfl, Nat.le_of_ble_eq_true rfl⟩ (lv_sub hl [0] rfl) hf
