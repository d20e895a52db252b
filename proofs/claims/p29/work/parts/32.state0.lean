/-! java/lang/Integer.bitCount(I)I -/
def rmJ6_bitCount : Room := { frames := 0, cells := 0, slots := 0, locals := 0 }
def fJ6_bitCount_48 (x0 : Int32) : Option (Int32) := some (x0 &&& 63)
set_option maxRecDepth 100000 in
set_option maxHeartbeats 4000000 in
theorem wJ6_bitCount_48 {p : Program} {l : Launch} {e : Env} {s : State} {m : MethodId} {args : Array Value} {below : List Frame} {meth : Method} {c : Code} (X : sX p s m args meth c cJ6_bitCount_0f7a4 1 RJ6 (some .int)) {x0 : Int32} {t : Int32}  {ls : Array Slot} (hl : lv_has ls 1 [(0, .int x0)]) (hf : fJ6_bitCount_48 x0 = some t) : W p l e rmJ6_bitCount s m args below meth c s.heap [] 0 0 (MQ below (QcRead t) args s 0 0 (fun _ => False)) (F0 m 48 ls []) := by
  obtain ⟨⟨hx, hb, hml, hown, hts⟩, hr, hlk⟩ := id X
  replace hf : (some (x0 &&& 63)) = some t := hf
  refine lv_iload_n hx hb dJ6_bitCount_0f7a4_48 rfl (lv_at hl 0 rfl) ?_
  refine lv_bipush (v := 63) hx hb dJ6_bitCount_0f7a4_49 (by decide) ?_
  refine lv_iand hx hb dJ6_bitCount_0f7a4_51 ?_
  obtain rfl := so_i hf
  exact rd_i hx hb hr hlk dJ6_bitCount_0f7a4_52
def fJ6_bitCount_41 (x0 : Int32) : Option (Int32) := fJ6_bitCount_48 (x0 + ((x0.toUInt32 >>> (Int32.toUInt32 16 &&& Int32.toUInt32 31)).toInt32))
set_option maxRecDepth 100000 in
set_option maxHeartbeats 4000000 in
theorem wJ6_bitCount_41 {p : Program} {l : Launch} {e : Env} {s : State} {m : MethodId} {args : Array Value} {below : List Frame} {meth : Method} {c : Code} (X : sX p s m args meth c cJ6_bitCount_0f7a4 1 RJ6 (some .int)) {x0 : Int32} {t : Int32}  {ls : Array Slot} (hl : lv_has ls 1 [(0, .int x0)]) (hf : fJ6_bitCount_41 x0 = some t) : W p l e rmJ6_bitCount s m args below meth c s.heap [] 0 0 (MQ below (QcRead t) args s 0 0 (fun _ => False)) (F0 m 41 ls []) := by
  obtain ⟨⟨hx, hb, hml, hown, hts⟩, hr, hlk⟩ := id X
  replace hf : (fJ6_bitCount_48 (x0 + ((x0.toUInt32 >>> (Int32.toUInt32 16 &&& Int32.toUInt32 31)).toInt32))) = some t := hf
  refine lv_iload_n hx hb dJ6_bitCount_0f7a4_41 rfl (lv_at hl 0 rfl) ?_
  refine lv_iload_n hx hb dJ6_bitCount_0f7a4_42 rfl (lv_at hl 0 rfl) ?_
  refine lv_bipush (v := 16) hx hb dJ6_bitCount_0f7a4_43 (by decide) ?_
  refine lv_iushr hx hb dJ6_bitCount_0f7a4_45 rfl ?_
  refine lv_iadd hx hb dJ6_bitCount_0f7a4_46 ?_
  refine lv_istore_n (lv' := [(0, .int (x0 + ((x0.toUInt32 >>> (Int32.toUInt32 16 &&& Int32.toUInt32 31)).toInt32)))]) hx hb dJ6_bitCount_0f7a4_47 rfl hl (by decide) rfl (fun ls hl => ?_)
  exact wJ6_bitCount_48 X  (lv_sub hl [0] rfl) hf
def fJ6_bitCount_34 (x0 : Int32) : Option (Int32) := fJ6_bitCount_41 (x0 + ((x0.toUInt32 >>> (Int32.toUInt32 8 &&& Int32.toUInt32 31)).toInt32))
set_option maxRecDepth 100000 in
set_option maxHeartbeats 4000000 in
theorem wJ6_bitCount_34 {p : Program} {l : Launch} {e : Env} {s : State} {m : MethodId} {args : Array Value} {below : List Frame} {meth : Method} {c : Code} (X : sX p s m args meth c cJ6_bitCount_0f7a4 1 RJ6 (some .int)) {x0 : Int32} {t : Int32}  {ls : Array Slot} (hl : lv_has ls 1 [(0, .int x0)]) (hf : fJ6_bitCount_34 x0 = some t) : W p l e rmJ6_bitCount s m args below meth c s.heap [] 0 0 (MQ below (QcRead t) args s 0 0 (fun _ => False)) (F0 m 34 ls []) := by
  obtain ⟨⟨hx, hb, hml, hown, hts⟩, hr, hlk⟩ := id X
  replace hf : (fJ6_bitCount_41 (x0 + ((x0.toUInt32 >>> (Int32.toUInt32 8 &&& Int32.toUInt32 31)).toInt32))) = some t := hf
  refine lv_iload_n hx hb dJ6_bitCount_0f7a4_34 rfl (lv_at hl 0 rfl) ?_
  refine lv_iload_n hx hb dJ6_bitCount_0f7a4_35 rfl (lv_at hl 0 rfl) ?_
  refine lv_bipush (v := 8) hx hb dJ6_bitCount_0f7a4_36 (by decide) ?_
  refine lv_iushr hx hb dJ6_bitCount_0f7a4_38 rfl ?_
  refine lv_iadd hx hb dJ6_bitCount_0f7a4_39 ?_
  refine lv_istore_n (lv' := [(0, .int (x0 + ((x0.toUInt32 >>> (Int32.toUInt32 8 &&& Int32.toUInt32 31)).toInt32)))]) hx hb dJ6_bitCount_0f7a4_40 rfl hl (by decide) rfl (fun ls hl => ?_)
  exact wJ6_bitCount_41 X  (lv_sub hl [0] rfl) hf
def fJ6_bitCount_24 (x0 : Int32) : Option (Int32) := fJ6_bitCount_34 ((x0 + ((x0.toUInt32 >>> (Int32.toUInt32 4 &&& Int32.toUInt32 31)).toInt32)) &&& 252645135)
set_option maxRecDepth 100000 in
set_option maxHeartbeats 4000000 in
theorem wJ6_bitCount_24 {p : Program} {l : Launch} {e : Env} {s : State} {m : MethodId} {args : Array Value} {below : List Frame} {meth : Method} {c : Code} (X : sX p s m args meth c cJ6_bitCount_0f7a4 1 RJ6 (some .int)) {x0 : Int32} {t : Int32}  {ls : Array Slot} (hl : lv_has ls 1 [(0, .int x0)]) (hf : fJ6_bitCount_24 x0 = some t) : W p l e rmJ6_bitCount s m args below meth c s.heap [] 0 0 (MQ below (QcRead t) args s 0 0 (fun _ => False)) (F0 m 24 ls []) := by
  obtain ⟨⟨hx, hb, hml, hown, hts⟩, hr, hlk⟩ := id X
  replace hf : (fJ6_bitCount_34 ((x0 + ((x0.toUInt32 >>> (Int32.toUInt32 4 &&& Int32.toUInt32 31)).toInt32)) &&& 252645135)) = some t := hf
  refine lv_iload_n hx hb dJ6_bitCount_0f7a4_24 rfl (lv_at hl 0 rfl) ?_
  refine lv_iload_n hx hb dJ6_bitCount_0f7a4_25 rfl (lv_at hl 0 rfl) ?_
  refine lv_iconst (v := 4) hx hb dJ6_bitCount_0f7a4_26 (by decide) ?_
  refine lv_iushr hx hb dJ6_bitCount_0f7a4_27 rfl ?_
  refine lv_iadd hx hb dJ6_bitCount_0f7a4_28 ?_
  refine lv_ldcw hx hb hown (hts _ gkJ6_267) dJ6_bitCount_0f7a4_29 ?_
  refine lv_iand hx hb dJ6_bitCount_0f7a4_32 ?_
  refine lv_istore_n (lv' := [(0, .int ((x0 + ((x0.toUInt32 >>> (Int32.toUInt32 4 &&& Int32.toUInt32 31)).toInt32)) &&& 252645135))]) hx hb dJ6_bitCount_0f7a4_33 rfl hl (by decide) rfl (fun ls hl => ?_)
  exact wJ6_bitCount_34 X  (lv_sub hl [0] rfl) hf
def fJ6_bitCount_10 (x0 : Int32) : Option (Int32) := fJ6_bitCount_24 ((x0 &&& 858993459) + (((x0.toUInt32 >>> (Int32.toUInt32 2 &&& Int32.toUInt32 31)).toInt32) &&& 858993459))
set_option maxRecDepth 100000 in
set_option maxHeartbeats 4000000 in
theorem wJ6_bitCount_10 {p : Program} {l : Launch} {e : Env} {s : State} {m : MethodId} {args : Array Value} {below : List Frame} {meth : Method} {c : Code} (X : sX p s m args meth c cJ6_bitCount_0f7a4 1 RJ6 (some .int)) {x0 : Int32} {t : Int32}  {ls : Array Slot} (hl : lv_has ls 1 [(0, .int x0)]) (hf : fJ6_bitCount_10 x0 = some t) : W p l e rmJ6_bitCount s m args below meth c s.heap [] 0 0 (MQ below (QcRead t) args s 0 0 (fun _ => False)) (F0 m 10 ls []) := by
  obtain ⟨⟨hx, hb, hml, hown, hts⟩, hr, hlk⟩ := id X
  replace hf : (fJ6_bitCount_24 ((x0 &&& 858993459) + (((x0.toUInt32 >>> (Int32.toUInt32 2 &&& Int32.toUInt32 31)).toInt32) &&& 858993459))) = some t := hf
  refine lv_iload_n hx hb dJ6_bitCount_0f7a4_10 rfl (lv_at hl 0 rfl) ?_
  refine lv_ldcw hx hb hown (hts _ gkJ6_266) dJ6_bitCount_0f7a4_11 ?_
  refine lv_iand hx hb dJ6_bitCount_0f7a4_14 ?_
  refine lv_iload_n hx hb dJ6_bitCount_0f7a4_15 rfl (lv_at hl 0 rfl) ?_
  refine lv_iconst (v := 2) hx hb dJ6_bitCount_0f7a4_16 (by decide) ?_
  refine lv_iushr hx hb dJ6_bitCount_0f7a4_17 rfl ?_
  refine lv_ldcw hx hb hown (hts _ gkJ6_266) dJ6_bitCount_0f7a4_18 ?_
  refine lv_iand hx hb dJ6_bitCount_0f7a4_21 ?_
  refine lv_iadd hx hb dJ6_bitCount_0f7a4_22 ?_
  refine lv_istore_n (lv' := [(0, .int ((x0 &&& 858993459) + (((x0.toUInt32 >>> (Int32.toUInt32 2 &&& Int32.toUInt32 31)).toInt32) &&& 858993459)))]) hx hb dJ6_bitCount_0f7a4_23 rfl hl (by decide) rfl (fun ls hl => ?_)
  exact wJ6_bitCount_24 X  (lv_sub hl [0] rfl) hf
def fJ6_bitCount_0 (x0 : Int32) : Option (Int32) := fJ6_bitCount_10 (x0 - (((x0.toUInt32 >>> (Int32.toUInt32 1 &&& Int32.toUInt32 31)).toInt32) &&& 1431655765))
set_option maxRecDepth 100000 in
set_option maxHeartbeats 4000000 in
theorem wJ6_bitCount_0 {p : Program} {l : Launch} {e : Env} {s : State} {m : MethodId} {args : Array Value} {below : List Frame} {meth : Method} {c : Code} (X : sX p s m args meth c cJ6_bitCount_0f7a4 1 RJ6 (some .int)) {x0 : Int32} {t : Int32}  {ls : Array Slot} (hl : lv_has ls 1 [(0, .int x0)]) (hf : fJ6_bitCount_0 x0 = some t) : W p l e rmJ6_bitCount s m args below meth c s.heap [] 0 0 (MQ below (QcRead t) args s 0 0 (fun _ => False)) (F0 m 0 ls []) := by
  obtain ⟨⟨hx, hb, hml, hown, hts⟩, hr, hlk⟩ := id X
  replace hf : (fJ6_bitCount_10 (x0 - (((x0.toUInt32 >>> (Int32.toUInt32 1 &&& Int32.toUInt32 31)).toInt32) &&& 1431655765))) = some t := hf
  refine lv_iload_n hx hb dJ6_bitCount_0f7a4_0 rfl (lv_at hl 0 rfl) ?_
  refine lv_iload_n hx hb dJ6_bitCount_0f7a4_1 rfl (lv_at hl 0 rfl) ?_
  refine lv_iconst (v := 1) hx hb dJ6_bitCount_0f7a4_2 (by decide) ?_
  refine lv_iushr hx hb dJ6_bitCount_0f7a4_3 rfl ?_
  refine lv_ldcw hx hb hown (hts _ gkJ6_265) dJ6_bitCount_0f7a4_4 ?_
  refine lv_iand hx hb dJ6_bitCount_0f7a4_7 ?_
  refine lv_isub hx hb dJ6_bitCount_0f7a4_8 ?_
  refine lv_istore_n (lv' := [(0, .int (x0 - (((x0.toUInt32 >>> (Int32.toUInt32 1 &&& Int32.toUInt32 31)).toInt32) &&& 1431655765)))]) hx hb dJ6_bitCount_0f7a4_9 rfl hl (by decide) rfl (fun ls hl => ?_)
  exact wJ6_bitCount_10 X  (lv_sub hl [0] rfl) hf
set_option maxRecDepth 100000 in
set_option maxHeartbeats 4000000 in
theorem cJ6_bitCount (l : Launch) (x0 : Int32) {t : Int32} (hf : fJ6_bitCount_0 x0 = some t) : Met l yJ6_bitCount_0f7a4 uJ6_bitCount_0f7a4 rmJ6_bitCount (fun v _ => v = ([.int x0] : List Value).toArray) (QcRead t) 0 0 (fun _ => False) := by
  refine Met.ofW (cc := cJ6_bitCount_0f7a4) (maxL := 1) (ret := (some .int)) (by decide) rfl ?_
  intro p e s m args below meth c s₁ B hml hv
  obtain rfl := hv
  have X : sX p s m ([.int x0] : List Value).toArray meth c cJ6_bitCount_0f7a4 1 RJ6 (some .int) := ⟨⟨B.exec, B.bytes, hml, findClass_of_methodNamed B.named, fun w h => atoms_spec (ws := uJ6_bitCount_0f7a4) B.pre w (List.mem_cons_of_mem _ h)⟩, B.returns, B.notSynchronized⟩
  have hl := lv_entry ([.int x0]) (n := 1) (Nat.le_of_ble_eq_true rfl)
  rw [lg_entry_eq]
  generalize (lg_sl ([.int x0]) ++ List.replicate (1 - (lg_sl ([.int x0])).length) Slot.unset).toArray = ls at hl ⊢
  have hl : lv_has ls 1 [(0, .int x0)] := hl
  exact wJ6_bitCount_0 X (lv_sub hl [0] rfl) hf
set_option maxRecDepth 100000 in
set_option maxHeartbeats 4000000 in
theorem kJ6_bitCount {p : Program} {l : Launch} {e : Env} {R : Room} {s : State} {m : MethodId} {args : Array Value} {below : List Frame} {meth : Method} {c : Code} {cc : ByteArray} {nL : Nat} {own : String} {H : Heap} {locs : List Loc} {cells slots : Nat} {Q : State → Prop} {pc : Nat} {ls : Array Slot} {rest : List Value} (S : CallFix p m c cc nL s args gw own) (hls : ls.size = nL) {index : Nat} (hG : GoodIn gw (va_wsS own index yJ6_bitCount_0f7a4 uJ6_bitCount_0f7a4)) (hR : rmJ6_bitCount.frames + 1 ≤ R.frames ∧ 8 + (1 + 11) + rmJ6_bitCount.locals ≤ R.locals) {x0 : Int32} {t : Int32} (hf : fJ6_bitCount_0 x0 = some t) (hrest : (rest.map fun v => v.category).sum ≤ 8) (hdg : decode cc pc = .ok (.invokestatic index, 3)) (hc : cells ≤ R.cells ∧ slots ≤ R.slots) (kk : W p l e R s m args below meth c H locs cells slots Q (F0 m (pc + 3) ls (.int t :: rest))) : W p l e R s m args below meth c H locs cells slots Q (F0 m pc ls (.int x0 :: rest)) :=
  W.callR (W.runS S (cJ6_bitCount l x0 hf) (va_cwS 1 S.2.2.2.2 hG rfl rfl rfl (by decide +kernel) hR) preEq rfl rfl hls rfl (lv_room hrest) hdg hc) kk
/-! OreRailway$State.copyFrom(LOreRailway$State;)V -/
def rm3_copyFrom : Room := { frames := 1, cells := 0, slots := 0, locals := 26 }
def f3_copyFrom_136 (v1 : Nat → Int32) (v0 : Nat → Int32) : Option ((Nat → Int32)) := some (v0)
set_option maxRecDepth 100000 in
set_option maxHeartbeats 4000000 in
theorem w3_copyFrom_136 {p : Program} {l : Launch} {e : Env} {s : State} {m : MethodId} {args : Array Value} {below : List Frame} {meth : Method} {c : Code} {D : va_G} {Y : cYt} {ad : Nat → Nat} {μ : Nat → Nat → Int32} {k : Nat} {v0 : Nat → Int32} {k2 : Nat} {v1 : Nat → Int32} (X : cX D Y p s m args meth c cX3_copyFrom 3 RX3 none) (hI : cInj ad) (hk : k < 10) (hk2 : k2 < 10) (hne : k2 ≠ k) (hM2 : μ k2 = v1)  {t : (Nat → Int32)}  {H : Heap} {locs : List Loc} (hH : cH D Y ad (s1 μ k v0) s H locs) {ls : Array Slot} (hl : lv_has ls 3 []) (hf : f3_copyFrom_136 v1 v0 = some t) : W p l e rm3_copyFrom s m args below meth c H locs 0 0 (MQ below (va_Qv (fun (_ : Unit) => True) (fun _ t9 => cB D Y ad (s1 μ k t) t9) (cA ad s.heap.size)) args s 0 0 (cA ad s.heap.size)) (F0 m 136 ls []) := by
  obtain ⟨⟨hx, hb, hml, hown, hts⟩, hr, hlk, hK⟩ := id X
  replace hf : (some (v0)) = some t := hf
  obtain rfl := so_i hf
  exact cr_vw X hH rfl dX3_copyFrom_136
def f3_copyFrom_61 (v1 : Nat → Int32) : Nat → Int32 → (Nat → Int32) → Option ((Nat → Int32))
  | 0, _, _ => none
  | n + 1, x2, v0 => if 8 ≤ x2 then (f3_copyFrom_136 v1 (upd (upd (upd (upd (upd (upd v0 162 (v1 162)) 163 (v1 163)) 164 (v1 164)) 165 (v1 165)) 166 (v1 166)) 167 (v1 167))) else (gd x2 8 (gd x2 8 (Option.bind (f0_copyFrom_0 ((Int32.toNatClampNeg x2)) ((Int32.toNatClampNeg x2)) v1 v0) (fun t4 => (f3_copyFrom_61 v1 n) (x2 + 1) t4))))
set_option maxRecDepth 100000 in
set_option maxHeartbeats 4000000 in
theorem w3_copyFrom_61 {p : Program} {l : Launch} {e : Env} {s : State} {m : MethodId} {args : Array Value} {below : List Frame} {meth : Method} {c : Code} {D : va_G} {Y : cYt} {ad : Nat → Nat} {μ : Nat → Nat → Int32} {k : Nat} {k2 : Nat} {v1 : Nat → Int32} (X : cX D Y p s m args meth c cX3_copyFrom 3 RX3 none) (hI : cInj ad) (hk : k < 10) (hk2 : k2 < 10) (hne : k2 ≠ k) (hM2 : μ k2 = v1)  {t : (Nat → Int32)} :
    ∀ (n : Nat) (x2 : Int32) (v0 : Nat → Int32) (H : Heap) (locs : List Loc), cH D Y ad (s1 μ k v0) s H locs → ∀ (ls : Array Slot), lv_has ls 3 [(0, .ref (ad (15 * k))), (1, .ref (ad (15 * k2))), (2, .int x2)] → f3_copyFrom_61 v1 n x2 v0 = some t → W p l e rm3_copyFrom s m args below meth c H locs 0 0 (MQ below (va_Qv (fun (_ : Unit) => True) (fun _ t9 => cB D Y ad (s1 μ k t) t9) (cA ad s.heap.size)) args s 0 0 (cA ad s.heap.size)) (F0 m 61 ls []) := by
  obtain ⟨⟨hx, hb, hml, hown, hts⟩, hr, hlk, hK⟩ := id X
  intro n
  induction n with
  | zero =>
    intro x2 v0 H locs hH ls hl hf
    cases hf
  | succ n ih =>
    intro x2 v0 H locs hH ls hl hf
    replace hf : (if 8 ≤ x2 then (f3_copyFrom_136 v1 (upd (upd (upd (upd (upd (upd v0 162 (v1 162)) 163 (v1 163)) 164 (v1 164)) 165 (v1 165)) 166 (v1 166)) 167 (v1 167))) else (gd x2 8 (gd x2 8 (Option.bind (f0_copyFrom_0 ((Int32.toNatClampNeg x2)) ((Int32.toNatClampNeg x2)) v1 v0) (fun t4 => (f3_copyFrom_61 v1 n) (x2 + 1) t4))))) = some t := hf
    refine lv_iload_n hx hb dX3_copyFrom_61 rfl (lv_at hl 2 rfl) ?_
    refine lv_bipush (v := 8) hx hb dX3_copyFrom_62 (by decide) ?_
    refine lv_icmp_ge (tgt := 88) hx hb dX3_copyFrom_64 (by decide) (fun c1 => ?_) (fun c1 => ?_)
    · have hf := it_t c1 hf
      refine lv_aload_n hx hb dX3_copyFrom_88 rfl (lv_at hl 0 rfl) ?_
      refine lv_aload_n hx hb dX3_copyFrom_89 rfl (lv_at hl 1 rfl) ?_
      refine cr_gSt X hk2 ((s1_n hne).trans hM2) hH.1 (i := 6) (v := .int (v1 162)) (by decide) gfX3_44 rfl dX3_copyFrom_90 ?_
      refine cv_pSt X hI hk hH 6 (by decide) gfX3_44 dX3_copyFrom_93 (fun H locs hH => ?_)
      refine lv_aload_n hx hb dX3_copyFrom_96 rfl (lv_at hl 0 rfl) ?_
      refine lv_aload_n hx hb dX3_copyFrom_97 rfl (lv_at hl 1 rfl) ?_
      refine cr_gSt X hk2 ((s1_n hne).trans hM2) hH.1 (i := 7) (v := .int (v1 163)) (by decide) gfX3_48 rfl dX3_copyFrom_98 ?_
      refine cv_pSt X hI hk hH 7 (by decide) gfX3_48 dX3_copyFrom_101 (fun H locs hH => ?_)
      refine lv_aload_n hx hb dX3_copyFrom_104 rfl (lv_at hl 0 rfl) ?_
      refine lv_aload_n hx hb dX3_copyFrom_105 rfl (lv_at hl 1 rfl) ?_
      refine cr_gSt X hk2 ((s1_n hne).trans hM2) hH.1 (i := 8) (v := .int (v1 164)) (by decide) gfX3_51 rfl dX3_copyFrom_106 ?_
      refine cv_pSt X hI hk hH 8 (by decide) gfX3_51 dX3_copyFrom_109 (fun H locs hH => ?_)
      refine lv_aload_n hx hb dX3_copyFrom_112 rfl (lv_at hl 0 rfl) ?_
      refine lv_aload_n hx hb dX3_copyFrom_113 rfl (lv_at hl 1 rfl) ?_
      refine cr_gSt X hk2 ((s1_n hne).trans hM2) hH.1 (i := 9) (v := .int (v1 165)) (by decide) gfX3_54 rfl dX3_copyFrom_114 ?_
      refine cv_pSt X hI hk hH 9 (by decide) gfX3_54 dX3_copyFrom_117 (fun H locs hH => ?_)
      refine lv_aload_n hx hb dX3_copyFrom_120 rfl (lv_at hl 0 rfl) ?_
      refine lv_aload_n hx hb dX3_copyFrom_121 rfl (lv_at hl 1 rfl) ?_
      refine cr_gSt X hk2 ((s1_n hne).trans hM2) hH.1 (i := 10) (v := .int (v1 166)) (by decide) gfX3_57 rfl dX3_copyFrom_122 ?_
      refine cv_pSt X hI hk hH 10 (by decide) gfX3_57 dX3_copyFrom_125 (fun H locs hH => ?_)
      refine lv_aload_n hx hb dX3_copyFrom_128 rfl (lv_at hl 0 rfl) ?_
      refine lv_aload_n hx hb dX3_copyFrom_129 rfl (lv_at hl 1 rfl) ?_
      refine cr_gSt X hk2 ((s1_n hne).trans hM2) hH.1 (i := 11) (v := .int (v1 167)) (by decide) gfX3_60 rfl dX3_copyFrom_130 ?_
      refine cv_pSt X hI hk hH 11 (by decide) gfX3_60 dX3_copyFrom_133 (fun H locs hH => ?_)
      exact w3_copyFrom_136 X hI hk hk2 hne hM2 hH (lv_sub hl [] rfl) hf
    · have hf := it_f c1 hf
      refine lv_aload_n hx hb dX3_copyFrom_67 rfl (lv_at hl 0 rfl) ?_
      refine cr_gSt X hk s1_k hH.1 (i := 4) (v := .ref (ad (15 * k + 5))) (by decide) gfX3_26 rfl dX3_copyFrom_68 ?_
      refine lv_iload_n hx hb dX3_copyFrom_71 rfl (lv_at hl 2 rfl) ?_
      obtain ⟨hi2, hf⟩ := gd_o hf
      refine cr_cars X hk hH.1 hi2 dX3_copyFrom_72 ?_
      refine lv_aload_n hx hb dX3_copyFrom_73 rfl (lv_at hl 1 rfl) ?_
      refine cr_gSt X hk2 ((s1_n hne).trans hM2) hH.1 (i := 4) (v := .ref (ad (15 * k2 + 5))) (by decide) gfX3_26 rfl dX3_copyFrom_74 ?_
      refine lv_iload_n hx hb dX3_copyFrom_77 rfl (lv_at hl 2 rfl) ?_
      obtain ⟨hi3, hf⟩ := gd_o hf
      refine cr_cars X hk2 hH.1 hi3 dX3_copyFrom_78 ?_
      obtain ⟨t4, ht4, hf⟩ := bd_o hf
      refine k0_copyFrom X hI hk (vin_lt hi2) hk2 hne hM2 (vin_lt hi3) hH hl.1 qX3_40 ⟨Nat.le_of_ble_eq_true rfl, Nat.le_of_ble_eq_true rfl⟩ ht4 (Nat.le_of_ble_eq_true rfl) dX3_copyFrom_79 ⟨Nat.zero_le _, Nat.zero_le _⟩ (fun H locs hH => ?_)
      refine lv_iinc (v := x2 + 1) (lv' := [(2, .int (x2 + 1)), (0, .ref (ad (15 * k))), (1, .ref (ad (15 * k2)))]) hx hb dX3_copyFrom_82 hl (k := 2) rfl rfl (by decide) rfl (fun ls hl => ?_)
      refine lv_goto (tgt := 61) hx hb dX3_copyFrom_85 (by decide) ?_
      exact ih _ _ _ _ hH _ (lv_sub hl [1, 2, 0] rfl) hf
def f3_copyFrom_0 (v1 : Nat → Int32) (v0 : Nat → Int32) : Option ((Nat → Int32)) := f3_copyFrom_61 v1 fu 0 (bl (bl (bl (bl v0 v1 0 30) v1 30 30) v1 60 30) v1 168 3)
set_option maxRecDepth 100000 in
set_option maxHeartbeats 4000000 in
theorem w3_copyFrom_0 {p : Program} {l : Launch} {e : Env} {s : State} {m : MethodId} {args : Array Value} {below : List Frame} {meth : Method} {c : Code} {D : va_G} {Y : cYt} {ad : Nat → Nat} {μ : Nat → Nat → Int32} {k : Nat} {v0 : Nat → Int32} {k2 : Nat} {v1 : Nat → Int32} (X : cX D Y p s m args meth c cX3_copyFrom 3 RX3 none) (hI : cInj ad) (hk : k < 10) (hk2 : k2 < 10) (hne : k2 ≠ k) (hM2 : μ k2 = v1)  {t : (Nat → Int32)}  {H : Heap} {locs : List Loc} (hH : cH D Y ad (s1 μ k v0) s H locs) {ls : Array Slot} (hl : lv_has ls 3 [(0, .ref (ad (15 * k))), (1, .ref (ad (15 * k2)))]) (hf : f3_copyFrom_0 v1 v0 = some t) : W p l e rm3_copyFrom s m args below meth c H locs 0 0 (MQ below (va_Qv (fun (_ : Unit) => True) (fun _ t9 => cB D Y ad (s1 μ k t) t9) (cA ad s.heap.size)) args s 0 0 (cA ad s.heap.size)) (F0 m 0 ls []) := by
  obtain ⟨⟨hx, hb, hml, hown, hts⟩, hr, hlk, hK⟩ := id X
  replace hf : (f3_copyFrom_61 v1 fu 0 (bl (bl (bl (bl v0 v1 0 30) v1 30 30) v1 60 30) v1 168 3)) = some t := hf
  refine lv_aload_n hx hb dX3_copyFrom_0 rfl (lv_at hl 1 rfl) ?_
  refine cr_gSt X hk2 ((s1_n hne).trans hM2) hH.1 (i := 0) (v := .ref (ad (15 * k2 + 1))) (by decide) gfX3_9 rfl dX3_copyFrom_1 ?_
  refine lv_iconst (v := 0) hx hb dX3_copyFrom_4 (by decide) ?_
  refine lv_aload_n hx hb dX3_copyFrom_5 rfl (lv_at hl 0 rfl) ?_
  refine cr_gSt X hk s1_k hH.1 (i := 0) (v := .ref (ad (15 * k + 1))) (by decide) gfX3_9 rfl dX3_copyFrom_6 ?_
  refine lv_iconst (v := 0) hx hb dX3_copyFrom_9 (by decide) ?_
  refine lv_bipush (v := 30) hx hb dX3_copyFrom_10 (by decide) ?_
  refine cv_cp1 X hI hl.1 hk hk2 hne hM2 hH gmX3_34 (Nat.le_of_ble_eq_true rfl) (Nat.le_of_ble_eq_true rfl) dX3_copyFrom_12 (fun H locs hH => ?_)
  refine lv_aload_n hx hb dX3_copyFrom_15 rfl (lv_at hl 1 rfl) ?_
  refine cr_gSt X hk2 ((s1_n hne).trans hM2) hH.1 (i := 1) (v := .ref (ad (15 * k2 + 2))) (by decide) gfX3_15 rfl dX3_copyFrom_16 ?_
  refine lv_iconst (v := 0) hx hb dX3_copyFrom_19 (by decide) ?_
  refine lv_aload_n hx hb dX3_copyFrom_20 rfl (lv_at hl 0 rfl) ?_
  refine cr_gSt X hk s1_k hH.1 (i := 1) (v := .ref (ad (15 * k + 2))) (by decide) gfX3_15 rfl dX3_copyFrom_21 ?_
  refine lv_iconst (v := 0) hx hb dX3_copyFrom_24 (by decide) ?_
  refine lv_bipush (v := 30) hx hb dX3_copyFrom_25 (by decide) ?_
  refine cv_cp2 X hI hl.1 hk hk2 hne hM2 hH gmX3_34 (Nat.le_of_ble_eq_true rfl) (Nat.le_of_ble_eq_true rfl) dX3_copyFrom_27 (fun H locs hH => ?_)
  refine lv_aload_n hx hb dX3_copyFrom_30 rfl (lv_at hl 1 rfl) ?_
  refine cr_gSt X hk2 ((s1_n hne).trans hM2) hH.1 (i := 2) (v := .ref (ad (15 * k2 + 3))) (by decide) gfX3_18 rfl dX3_copyFrom_31 ?_
  refine lv_iconst (v := 0) hx hb dX3_copyFrom_34 (by decide) ?_
  refine lv_aload_n hx hb dX3_copyFrom_35 rfl (lv_at hl 0 rfl) ?_
  refine cr_gSt X hk s1_k hH.1 (i := 2) (v := .ref (ad (15 * k + 3))) (by decide) gfX3_18 rfl dX3_copyFrom_36 ?_
  refine lv_iconst (v := 0) hx hb dX3_copyFrom_39 (by decide) ?_
  refine lv_bipush (v := 30) hx hb dX3_copyFrom_40 (by decide) ?_
  refine cv_cp3 X hI hl.1 hk hk2 hne hM2 hH gmX3_34 (Nat.le_of_ble_eq_true rfl) (Nat.le_of_ble_eq_true rfl) dX3_copyFrom_42 (fun H locs hH => ?_)
  refine lv_aload_n hx hb dX3_copyFrom_45 rfl (lv_at hl 1 rfl) ?_
  refine cr_gSt X hk2 ((s1_n hne).trans hM2) hH.1 (i := 3) (v := .ref (ad (15 * k2 + 4))) (by decide) gfX3_21 rfl dX3_copyFrom_46 ?_
  refine lv_iconst (v := 0) hx hb dX3_copyFrom_49 (by decide) ?_
  refine lv_aload_n hx hb dX3_copyFrom_50 rfl (lv_at hl 0 rfl) ?_
  refine cr_gSt X hk s1_k hH.1 (i := 3) (v := .ref (ad (15 * k + 4))) (by decide) gfX3_21 rfl dX3_copyFrom_51 ?_
  refine lv_iconst (v := 0) hx hb dX3_copyFrom_54 (by decide) ?_
  refine lv_iconst (v := 3) hx hb dX3_copyFrom_55 (by decide) ?_
  refine cv_cp4 X hI hl.1 hk hk2 hne hM2 hH gmX3_34 (Nat.le_of_ble_eq_true rfl) (Nat.le_of_ble_eq_true rfl) dX3_copyFrom_56 (fun H locs hH => ?_)
  refine lv_iconst (v := 0) hx hb dX3_copyFrom_59 (by decide) ?_
  refine lv_istore_n (lv' := [(2, .int 0), (0, .ref (ad (15 * k))), (1, .ref (ad (15 * k2)))]) hx hb dX3_copyFrom_60 rfl hl (by decide) rfl (fun ls hl => ?_)
  exact w3_copyFrom_61 X hI hk hk2 hne hM2 _ _ _ _ _ hH _ (lv_sub hl [1, 2, 0] rfl) hf
set_option maxRecDepth 100000 in
set_option maxHeartbeats 4000000 in
theorem c3_copyFrom (l : Launch) {D : va_G} {Y : cYt} {ad : Nat → Nat} {μ : Nat → Nat → Int32} {k : Nat} {k2 : Nat} (hk : k < 10) (hk2 : k2 < 10) (hne : k2 ≠ k) (hI : cInj ad) (sz : Nat) {t : (Nat → Int32)} (hf : f3_copyFrom_0 (μ k2) (μ k) = some t) : Met l yX3_copyFrom uX3_copyFrom rm3_copyFrom (va_Pc [.ref (ad (15 * k)), .ref (ad (15 * k2))] (fun U => U.heap.size = sz ∧ cB D Y ad μ U)) (va_Qv (fun (_ : Unit) => True) (fun _ t9 => cB D Y ad (s1 μ k t) t9) (cA ad sz)) 0 0 (cA ad sz) := by
  refine Met.ofW (cc := cX3_copyFrom) (maxL := 3) (ret := none) (by decide) rfl ?_
  intro p e s m args below meth c s₁ B hml hv
  obtain ⟨rfl, hsz, hP, hK⟩ := hv
  subst hsz
  have X : cX D Y p s m ([.ref (ad (15 * k)), .ref (ad (15 * k2))] : List Value).toArray meth c cX3_copyFrom 3 RX3 none := ⟨⟨B.exec, B.bytes, hml, findClass_of_methodNamed B.named, fun w h => atoms_spec (ws := uX3_copyFrom) B.pre w (List.mem_cons_of_mem _ h)⟩, B.returns, B.notSynchronized, hK⟩
  have hl := lv_entry ([.ref (ad (15 * k)), .ref (ad (15 * k2))]) (n := 3) (Nat.le_of_ble_eq_true rfl)
  rw [lg_entry_eq]
  generalize (lg_sl ([.ref (ad (15 * k)), .ref (ad (15 * k2))]) ++ List.replicate (3 - (lg_sl ([.ref (ad (15 * k)), .ref (ad (15 * k2))])).length) Slot.unset).toArray = ls at hl ⊢
  have hl : lv_has ls 3 [(0, .ref (ad (15 * k))), (1, .ref (ad (15 * k2)))] := hl
  exact w3_copyFrom_0 X hI hk hk2 hne rfl (cH_in k ⟨hP, va_S.rf⟩) (lv_sub hl [0, 1] rfl) hf
set_option maxRecDepth 100000 in
set_option maxHeartbeats 4000000 in
theorem km3_copyFrom {p : Program} {l : Launch} {e : Env} {R : Room} {s : State} {m : MethodId} {args : Array Value} {below : List Frame} {meth : Method} {c : Code} {cc : ByteArray} {nL : Nat} {own : String} {ret : Option FieldType} {D : va_G} {Y : cYt} {ad : Nat → Nat} {μ : Nat → Nat → Int32} {H : Heap} {locs : List Loc} {cells slots : Nat} {Q : State → Prop} {pc : Nat} {ls : Array Slot} {rest : List Value} (X : cX D Y p s m args meth c cc nL own ret) {k : Nat} {k2 : Nat} (hI : cInj ad) (hk : k < 10) (hk2 : k2 < 10) (hne : k2 ≠ k) (hH : cH D Y ad μ s H locs) (hls : ls.size = nL) {index : Nat} (hG : GoodIn gw (wsV own index RX3 yX3_copyFrom uX3_copyFrom)) (hR : rm3_copyFrom.frames + 1 ≤ R.frames ∧ 8 + (3 + 11) + rm3_copyFrom.locals ≤ R.locals) {t : (Nat → Int32)} (hf : f3_copyFrom_0 (μ k2) (μ k) = some t) (hrest : (rest.map fun v => v.category).sum ≤ 8) (hdg : decode cc pc = .ok (.invokevirtual index, 3)) (hc : cells ≤ R.cells ∧ slots ≤ R.slots) (kk : ∀ (H1 : Heap) (locs1 : List Loc), cH D Y ad (s1 μ k t) s H1 locs1 → W p l e R s m args below meth c H1 locs1 cells slots Q (F0 m (pc + 3) ls (rest))) : W p l e R s m args below meth c H locs cells slots Q (F0 m pc ls (.ref (ad (15 * k2)) :: .ref (ad (15 * k)) :: rest)) := by
  have hA : ∀ q, cA ad H.size q → cA ad s.heap.size q := fun q h => h.elim Or.inl (fun h => Or.inr (Nat.le_trans hH.2.1 h))
  refine va_callv (va_runV (As := [.ref (ad (15 * k2))]) (rest := rest) X.1 (c3_copyFrom l hk hk2 hne hI H.size hf) (cwV 1 X.1.2.2.2.2 hG rfl rfl rfl (by decide +kernel) hR) ⟨cBs_bl, va_recv X.2.2.2 hH.1 (ci := 3) (q0 := 15 * k) rfl (cw_ate (by omega) ((cw_st (r := 0) hk (by omega)).trans rfl)), fun U hU hW => ⟨rfl, by rw [hU], by rw [hU]; exact hH.1, va_K.moved hW.alike X.2.2.2⟩⟩ rfl rfl hls rfl (lv_room hrest) hdg hc) hH.2 (fun q _ h => hA q h) hA (fun u t9 H1 locs1 ht hvm hw hB hz1 hk1 hS => ?_)
  exact kk H1 locs1 ⟨by rw [← ht]; exact hB.1, hS⟩
set_option maxRecDepth 100000 in
set_option maxHeartbeats 4000000 in
theorem k3_copyFrom {p : Program} {l : Launch} {e : Env} {R : Room} {s : State} {m : MethodId} {args : Array Value} {below : List Frame} {meth : Method} {c : Code} {cc : ByteArray} {nL : Nat} {own : String} {ret : Option FieldType} {D : va_G} {Y : cYt} {ad : Nat → Nat} {μ : Nat → Nat → Int32} {H : Heap} {locs : List Loc} {cells slots : Nat} {Q : State → Prop} {pc : Nat} {ls : Array Slot} {rest : List Value} (X : cX D Y p s m args meth c cc nL own ret) {k : Nat} {k2 : Nat} {v0 : Nat → Int32} {v1 : Nat → Int32} (hI : cInj ad) (hk : k < 10) (hk2 : k2 < 10) (hne : k2 ≠ k) (hM2 : μ k2 = v1) (hH : cH D Y ad (s1 μ k v0) s H locs) (hls : ls.size = nL) {index : Nat} (hG : GoodIn gw (wsV own index RX3 yX3_copyFrom uX3_copyFrom)) (hR : rm3_copyFrom.frames + 1 ≤ R.frames ∧ 8 + (3 + 11) + rm3_copyFrom.locals ≤ R.locals) {t : (Nat → Int32)} (hf : f3_copyFrom_0 v1 v0 = some t) (hrest : (rest.map fun v => v.category).sum ≤ 8) (hdg : decode cc pc = .ok (.invokevirtual index, 3)) (hc : cells ≤ R.cells ∧ slots ≤ R.slots) (kk : ∀ (H1 : Heap) (locs1 : List Loc), cH D Y ad (s1 μ k t) s H1 locs1 → W p l e R s m args below meth c H1 locs1 cells slots Q (F0 m (pc + 3) ls (rest))) : W p l e R s m args below meth c H locs cells slots Q (F0 m pc ls (.ref (ad (15 * k2)) :: .ref (ad (15 * k)) :: rest)) := by
  have hf2 : f3_copyFrom_0 (s1 μ k v0 k2) (s1 μ k v0 k) = some t := by rw [s1_k, s1_n hne, hM2]; exact hf
  exact km3_copyFrom (μ := s1 μ k v0) X hI hk hk2 hne hH hls hG hR hf2 hrest hdg hc (fun H1 locs1 h => kk H1 locs1 (by rw [s1_s1] at h; exact h))
/-! OreRailway$State.hasCar(I)Z -/
def rm3_hasCar : Room := { frames := 0, cells := 0, slots := 0, locals := 0 }
def f3_hasCar_26 (v0 : Nat → Int32) (y0 : Int32) : Option (Int32) := gz y0 (some y0)
set_option maxRecDepth 100000 in
set_option maxHeartbeats 4000000 in
theorem w3_hasCar_26 {p : Program} {l : Launch} {e : Env} {s : State} {m : MethodId} {args : Array Value} {below : List Frame} {meth : Method} {c : Code} {D : va_G} {Y : cYt} {ad : Nat → Nat} {μ : Nat → Nat → Int32} {k : Nat} {v0 : Nat → Int32} (X : cX D Y p s m args meth c cX3_hasCar 2 RX3 (some .boolean)) (hk : k < 10) (hM : μ k = v0) (hP : va_P D vwCl (cwW Y ad μ) s.heap) {y0 : Int32} {t : Int32}  {ls : Array Slot} (hl : lv_has ls 2 []) (hf : f3_hasCar_26 v0 y0 = some t) : W p l e rm3_hasCar s m args below meth c s.heap [] 0 0 (MQ below (QcRead t) args s 0 0 (fun _ => False)) (F0 m 26 ls [.int y0]) := by
  obtain ⟨⟨hx, hb, hml, hown, hts⟩, hr, hlk, hK⟩ := id X
  replace hf : (gz y0 (some y0)) = some t := hf
  obtain ⟨hz, hf⟩ := gz_o hf
  obtain rfl := so_i hf
  exact rd_z hx hb hr hlk (nz_z hz) dX3_hasCar_26
def f3_hasCar_25 (v0 : Nat → Int32) : Option (Int32) := f3_hasCar_26 v0 0
set_option maxRecDepth 100000 in
set_option maxHeartbeats 4000000 in
theorem w3_hasCar_25 {p : Program} {l : Launch} {e : Env} {s : State} {m : MethodId} {args : Array Value} {below : List Frame} {meth : Method} {c : Code} {D : va_G} {Y : cYt} {ad : Nat → Nat} {μ : Nat → Nat → Int32} {k : Nat} {v0 : Nat → Int32} (X : cX D Y p s m args meth c cX3_hasCar 2 RX3 (some .boolean)) (hk : k < 10) (hM : μ k = v0) (hP : va_P D vwCl (cwW Y ad μ) s.heap) {t : Int32}  {ls : Array Slot} (hl : lv_has ls 2 []) (hf : f3_hasCar_25 v0  = some t) : W p l e rm3_hasCar s m args below meth c s.heap [] 0 0 (MQ below (QcRead t) args s 0 0 (fun _ => False)) (F0 m 25 ls []) := by
  obtain ⟨⟨hx, hb, hml, hown, hts⟩, hr, hlk, hK⟩ := id X
  replace hf : (f3_hasCar_26 v0 0) = some t := hf
  refine lv_iconst (v := 0) hx hb dX3_hasCar_25 (by decide) ?_
  exact w3_hasCar_26 X hk hM hP  (lv_sub hl [] rfl) hf
def f3_hasCar_0 (v0 : Nat → Int32) (x1 : Int32) : Option (Int32) := if x1 < 0 then (f3_hasCar_25 v0) else (if (v0 162) ≤ x1 then (f3_hasCar_25 v0) else (if 8 < (v0 162) then (f3_hasCar_25 v0) else (f3_hasCar_26 v0 1)))
set_option maxRecDepth 100000 in
set_option maxHeartbeats 4000000 in
theorem w3_hasCar_0 {p : Program} {l : Launch} {e : Env} {s : State} {m : MethodId} {args : Array Value} {below : List Frame} {meth : Method} {c : Code} {D : va_G} {Y : cYt} {ad : Nat → Nat} {μ : Nat → Nat → Int32} {k : Nat} {v0 : Nat → Int32} (X : cX D Y p s m args meth c cX3_hasCar 2 RX3 (some .boolean)) (hk : k < 10) (hM : μ k = v0) (hP : va_P D vwCl (cwW Y ad μ) s.heap) {x1 : Int32} {t : Int32}  {ls : Array Slot} (hl : lv_has ls 2 [(0, .ref (ad (15 * k))), (1, .int x1)]) (hf : f3_hasCar_0 v0 x1 = some t) : W p l e rm3_hasCar s m args below meth c s.heap [] 0 0 (MQ below (QcRead t) args s 0 0 (fun _ => False)) (F0 m 0 ls []) := by
  obtain ⟨⟨hx, hb, hml, hown, hts⟩, hr, hlk, hK⟩ := id X
  replace hf : (if x1 < 0 then (f3_hasCar_25 v0) else (if (v0 162) ≤ x1 then (f3_hasCar_25 v0) else (if 8 < (v0 162) then (f3_hasCar_25 v0) else (f3_hasCar_26 v0 1)))) = some t := hf
  refine lv_iload_n hx hb dX3_hasCar_0 rfl (lv_at hl 1 rfl) ?_
  refine lv_if_lt (tgt := 25) hx hb dX3_hasCar_1 (by decide) (fun c1 => ?_) (fun c1 => ?_)
  · have hf := it_t c1 hf
    exact w3_hasCar_25 X hk hM hP  (lv_sub hl [] rfl) hf
  · have hf := it_f c1 hf
    refine lv_iload_n hx hb dX3_hasCar_4 rfl (lv_at hl 1 rfl) ?_
    refine lv_aload_n hx hb dX3_hasCar_5 rfl (lv_at hl 0 rfl) ?_
    refine cr_gSt X hk hM hP (i := 6) (v := .int (v0 162)) (by decide) gfX3_44 rfl dX3_hasCar_6 ?_
    refine lv_icmp_ge (tgt := 25) hx hb dX3_hasCar_9 (by decide) (fun c2 => ?_) (fun c2 => ?_)
    · have hf := it_t c2 hf
      exact w3_hasCar_25 X hk hM hP  (lv_sub hl [] rfl) hf
    · have hf := it_f c2 hf
      refine lv_aload_n hx hb dX3_hasCar_12 rfl (lv_at hl 0 rfl) ?_
      refine cr_gSt X hk hM hP (i := 6) (v := .int (v0 162)) (by decide) gfX3_44 rfl dX3_hasCar_13 ?_
      refine lv_bipush (v := 8) hx hb dX3_hasCar_16 (by decide) ?_
      refine lv_icmp_gt (tgt := 25) hx hb dX3_hasCar_18 (by decide) (fun c3 => ?_) (fun c3 => ?_)
      · have hf := it_t c3 hf
        exact w3_hasCar_25 X hk hM hP  (lv_sub hl [] rfl) hf
      · have hf := it_f c3 hf
        refine lv_iconst (v := 1) hx hb dX3_hasCar_21 (by decide) ?_
        refine lv_goto (tgt := 26) hx hb dX3_hasCar_22 (by decide) ?_
        exact w3_hasCar_26 X hk hM hP  (lv_sub hl [] rfl) hf
set_option maxRecDepth 100000 in
set_option maxHeartbeats 4000000 in
theorem c3_hasCar (l : Launch) {D : va_G} {Y : cYt} {ad : Nat → Nat} {μ : Nat → Nat → Int32} {k : Nat} (hk : k < 10) (x1 : Int32) {t : Int32} (hf : f3_hasCar_0 (μ k) x1 = some t) : Met l yX3_hasCar uX3_hasCar rm3_hasCar (va_Pc [.ref (ad (15 * k)), .int x1] (cB D Y ad μ)) (QcRead t) 0 0 (fun _ => False) := by
  refine Met.ofW (cc := cX3_hasCar) (maxL := 2) (ret := (some .boolean)) (by decide) rfl ?_
  intro p e s m args below meth c s₁ B hml hv
  obtain ⟨rfl, hP, hK⟩ := hv
  have X : cX D Y p s m ([.ref (ad (15 * k)), .int x1] : List Value).toArray meth c cX3_hasCar 2 RX3 (some .boolean) := ⟨⟨B.exec, B.bytes, hml, findClass_of_methodNamed B.named, fun w h => atoms_spec (ws := uX3_hasCar) B.pre w (List.mem_cons_of_mem _ h)⟩, B.returns, B.notSynchronized, hK⟩
  have hl := lv_entry ([.ref (ad (15 * k)), .int x1]) (n := 2) (Nat.le_of_ble_eq_true rfl)
  rw [lg_entry_eq]
  generalize (lg_sl ([.ref (ad (15 * k)), .int x1]) ++ List.replicate (2 - (lg_sl ([.ref (ad (15 * k)), .int x1])).length) Slot.unset).toArray = ls at hl ⊢
  have hl : lv_has ls 2 [(0, .ref (ad (15 * k))), (1, .int x1)] := hl
  exact w3_hasCar_0 X hk rfl hP (lv_sub hl [0, 1] rfl) hf
set_option maxRecDepth 100000 in
set_option maxHeartbeats 4000000 in
theorem k3_hasCar {p : Program} {l : Launch} {e : Env} {R : Room} {s : State} {m : MethodId} {args : Array Value} {below : List Frame} {meth : Method} {c : Code} {cc : ByteArray} {nL : Nat} {own : String} {ret : Option FieldType} {D : va_G} {Y : cYt} {ad : Nat → Nat} {μ : Nat → Nat → Int32} {H : Heap} {locs : List Loc} {cells slots : Nat} {Q : State → Prop} {pc : Nat} {ls : Array Slot} {rest : List Value} (X : cX D Y p s m args meth c cc nL own ret) {k : Nat} {v0 : Nat → Int32} (hk : k < 10) (hM : μ k = v0) (hP : va_P D vwCl (cwW Y ad μ) H) (hls : ls.size = nL) {index : Nat} (hG : GoodIn gw (wsV own index RX3 yX3_hasCar uX3_hasCar)) (hR : rm3_hasCar.frames + 1 ≤ R.frames ∧ 8 + (2 + 11) + rm3_hasCar.locals ≤ R.locals) {x1 : Int32} {t : Int32} (hf : f3_hasCar_0 v0 x1 = some t) (hrest : (rest.map fun v => v.category).sum ≤ 8) (hdg : decode cc pc = .ok (.invokevirtual index, 3)) (hc : cells ≤ R.cells ∧ slots ≤ R.slots) (kk : W p l e R s m args below meth c H locs cells slots Q (F0 m (pc + 3) ls (.int t :: rest))) : W p l e R s m args below meth c H locs cells slots Q (F0 m pc ls (.int x1 :: .ref (ad (15 * k)) :: rest)) := by
  subst hM
  exact W.callR (W.runV (As := [.int x1]) X.1 (c3_hasCar l hk x1 hf) (cwV 1 X.1.2.2.2.2 hG rfl rfl rfl (by decide +kernel) hR) ⟨cB_bl, va_recv X.2.2.2 hP (ci := 3) (q0 := 15 * k) rfl (cw_ate (by omega) ((cw_st (r := 0) hk (by omega)).trans rfl)), fun U hU hW => ⟨rfl, by rw [hU]; exact hP, va_K.moved hW.alike X.2.2.2⟩⟩ rfl rfl hls rfl (lv_room hrest) hdg hc) kk
/-! OreRailway$State.isRolling(I)Z -/
def rm3_isRolling : Room := { frames := 1, cells := 0, slots := 0, locals := 21 }
def f3_isRolling_26 (v0 : Nat → Int32) (y0 : Int32) : Option (Int32) := gz y0 (some y0)
set_option maxRecDepth 100000 in
set_option maxHeartbeats 4000000 in
theorem w3_isRolling_26 {p : Program} {l : Launch} {e : Env} {s : State} {m : MethodId} {args : Array Value} {below : List Frame} {meth : Method} {c : Code} {D : va_G} {Y : cYt} {ad : Nat → Nat} {μ : Nat → Nat → Int32} {k : Nat} {v0 : Nat → Int32} (X : cX D Y p s m args meth c cX3_isRolling 2 RX3 (some .boolean)) (hk : k < 10) (hM : μ k = v0) (hP : va_P D vwCl (cwW Y ad μ) s.heap) {y0 : Int32} {t : Int32}  {ls : Array Slot} (hl : lv_has ls 2 []) (hf : f3_isRolling_26 v0 y0 = some t) : W p l e rm3_isRolling s m args below meth c s.heap [] 0 0 (MQ below (QcRead t) args s 0 0 (fun _ => False)) (F0 m 26 ls [.int y0]) := by
  obtain ⟨⟨hx, hb, hml, hown, hts⟩, hr, hlk, hK⟩ := id X
  replace hf : (gz y0 (some y0)) = some t := hf
  obtain ⟨hz, hf⟩ := gz_o hf
  obtain rfl := so_i hf
  exact rd_z hx hb hr hlk (nz_z hz) dX3_isRolling_26
def f3_isRolling_25 (v0 : Nat → Int32) : Option (Int32) := f3_isRolling_26 v0 0
set_option maxRecDepth 100000 in
set_option maxHeartbeats 4000000 in
theorem w3_isRolling_25 {p : Program} {l : Launch} {e : Env} {s : State} {m : MethodId} {args : Array Value} {below : List Frame} {meth : Method} {c : Code} {D : va_G} {Y : cYt} {ad : Nat → Nat} {μ : Nat → Nat → Int32} {k : Nat} {v0 : Nat → Int32} (X : cX D Y p s m args meth c cX3_isRolling 2 RX3 (some .boolean)) (hk : k < 10) (hM : μ k = v0) (hP : va_P D vwCl (cwW Y ad μ) s.heap) {t : Int32}  {ls : Array Slot} (hl : lv_has ls 2 []) (hf : f3_isRolling_25 v0  = some t) : W p l e rm3_isRolling s m args below meth c s.heap [] 0 0 (MQ below (QcRead t) args s 0 0 (fun _ => False)) (F0 m 25 ls []) := by
  obtain ⟨⟨hx, hb, hml, hown, hts⟩, hr, hlk, hK⟩ := id X
  replace hf : (f3_isRolling_26 v0 0) = some t := hf
  refine lv_iconst (v := 0) hx hb dX3_isRolling_25 (by decide) ?_
  exact w3_isRolling_26 X hk hM hP  (lv_sub hl [] rfl) hf
def f3_isRolling_0 (v0 : Nat → Int32) (x1 : Int32) : Option (Int32) := Option.bind (f3_hasCar_0 v0 x1) (fun t1 => if t1 = 0 then (f3_isRolling_25 v0) else (gd x1 8 (if (v0 (90 + 9 * ((Int32.toNatClampNeg x1)) + 0)) = 1 then (f3_isRolling_26 v0 1) else (f3_isRolling_25 v0))))
set_option maxRecDepth 100000 in
set_option maxHeartbeats 4000000 in
theorem w3_isRolling_0 {p : Program} {l : Launch} {e : Env} {s : State} {m : MethodId} {args : Array Value} {below : List Frame} {meth : Method} {c : Code} {D : va_G} {Y : cYt} {ad : Nat → Nat} {μ : Nat → Nat → Int32} {k : Nat} {v0 : Nat → Int32} (X : cX D Y p s m args meth c cX3_isRolling 2 RX3 (some .boolean)) (hk : k < 10) (hM : μ k = v0) (hP : va_P D vwCl (cwW Y ad μ) s.heap) {x1 : Int32} {t : Int32}  {ls : Array Slot} (hl : lv_has ls 2 [(0, .ref (ad (15 * k))), (1, .int x1)]) (hf : f3_isRolling_0 v0 x1 = some t) : W p l e rm3_isRolling s m args below meth c s.heap [] 0 0 (MQ below (QcRead t) args s 0 0 (fun _ => False)) (F0 m 0 ls []) := by
  obtain ⟨⟨hx, hb, hml, hown, hts⟩, hr, hlk, hK⟩ := id X
  replace hf : (Option.bind (f3_hasCar_0 v0 x1) (fun t1 => if t1 = 0 then (f3_isRolling_25 v0) else (gd x1 8 (if (v0 (90 + 9 * ((Int32.toNatClampNeg x1)) + 0)) = 1 then (f3_isRolling_26 v0 1) else (f3_isRolling_25 v0))))) = some t := hf
  refine lv_aload_n hx hb dX3_isRolling_0 rfl (lv_at hl 0 rfl) ?_
  refine lv_iload_n hx hb dX3_isRolling_1 rfl (lv_at hl 1 rfl) ?_
  obtain ⟨t1, ht1, hf⟩ := bd_o hf
  refine k3_hasCar X hk hM hP hl.1 qX3_63 ⟨Nat.le_of_ble_eq_true rfl, Nat.le_of_ble_eq_true rfl⟩ ht1 (Nat.le_of_ble_eq_true rfl) dX3_isRolling_2 ⟨Nat.zero_le _, Nat.zero_le _⟩ ?_
  refine lv_if_eq (tgt := 25) hx hb dX3_isRolling_5 (by decide) (fun c2 => ?_) (fun c2 => ?_)
  · have hf := it_t c2 hf
    exact w3_isRolling_25 X hk hM hP  (lv_sub hl [] rfl) hf
  · have hf := it_f c2 hf
    refine lv_aload_n hx hb dX3_isRolling_8 rfl (lv_at hl 0 rfl) ?_
    refine cr_gSt X hk hM hP (i := 4) (v := .ref (ad (15 * k + 5))) (by decide) gfX3_26 rfl dX3_isRolling_9 ?_
    refine lv_iload_n hx hb dX3_isRolling_12 rfl (lv_at hl 1 rfl) ?_
    obtain ⟨hi3, hf⟩ := gd_o hf
    refine cr_cars X hk hP hi3 dX3_isRolling_13 ?_
    refine cr_gCar X hk hM (j := (Int32.toNatClampNeg x1)) (vin_lt hi3) hP (i := 0) (v := .int (v0 (90 + 9 * ((Int32.toNatClampNeg x1)) + 0))) (by decide) gfX3_67 rfl dX3_isRolling_14 ?_
    refine lv_iconst (v := 1) hx hb dX3_isRolling_17 (by decide) ?_
    refine lv_icmp_ne (tgt := 25) hx hb dX3_isRolling_18 (by decide) (fun c4 => ?_) (fun c4 => ?_)
    · have hf := it_f c4 hf
      exact w3_isRolling_25 X hk hM hP  (lv_sub hl [] rfl) hf
    · have hf := it_t c4 hf
      refine lv_iconst (v := 1) hx hb dX3_isRolling_21 (by decide) ?_
      refine lv_goto (tgt := 26) hx hb dX3_isRolling_22 (by decide) ?_
      exact w3_isRolling_26 X hk hM hP  (lv_sub hl [] rfl) hf
set_option maxRecDepth 100000 in
set_option maxHeartbeats 4000000 in
theorem c3_isRolling (l : Launch) {D : va_G} {Y : cYt} {ad : Nat → Nat} {μ : Nat → Nat → Int32} {k : Nat} (hk : k < 10) (x1 : Int32) {t : Int32} (hf : f3_isRolling_0 (μ k) x1 = some t) : Met l yX3_isRolling uX3_isRolling rm3_isRolling (va_Pc [.ref (ad (15 * k)), .int x1] (cB D Y ad μ)) (QcRead t) 0 0 (fun _ => False) := by
  refine Met.ofW (cc := cX3_isRolling) (maxL := 2) (ret := (some .boolean)) (by decide) rfl ?_
  intro p e s m args below meth c s₁ B hml hv
  obtain ⟨rfl, hP, hK⟩ := hv
  have X : cX D Y p s m ([.ref (ad (15 * k)), .int x1] : List Value).toArray meth c cX3_isRolling 2 RX3 (some .boolean) := ⟨⟨B.exec, B.bytes, hml, findClass_of_methodNamed B.named, fun w h => atoms_spec (ws := uX3_isRolling) B.pre w (List.mem_cons_of_mem _ h)⟩, B.returns, B.notSynchronized, hK⟩
  have hl := lv_entry ([.ref (ad (15 * k)), .int x1]) (n := 2) (Nat.le_of_ble_eq_true rfl)
  rw [lg_entry_eq]
  generalize (lg_sl ([.ref (ad (15 * k)), .int x1]) ++ List.replicate (2 - (lg_sl ([.ref (ad (15 * k)), .int x1])).length) Slot.unset).toArray = ls at hl ⊢
  have hl : lv_has ls 2 [(0, .ref (ad (15 * k))), (1, .int x1)] := hl
  exact w3_isRolling_0 X hk rfl hP (lv_sub hl [0, 1] rfl) hf
set_option maxRecDepth 100000 in
set_option maxHeartbeats 4000000 in
theorem k3_isRolling {p : Program} {l : Launch} {e : Env} {R : Room} {s : State} {m : MethodId} {args : Array Value} {below : List Frame} {meth : Method} {c : Code} {cc : ByteArray} {nL : Nat} {own : String} {ret : Option FieldType} {D : va_G} {Y : cYt} {ad : Nat → Nat} {μ : Nat → Nat → Int32} {H : Heap} {locs : List Loc} {cells slots : Nat} {Q : State → Prop} {pc : Nat} {ls : Array Slot} {rest : List Value} (X : cX D Y p s m args meth c cc nL own ret) {k : Nat} {v0 : Nat → Int32} (hk : k < 10) (hM : μ k = v0) (hP : va_P D vwCl (cwW Y ad μ) H) (hls : ls.size = nL) {index : Nat} (hG : GoodIn gw (wsV own index RX3 yX3_isRolling uX3_isRolling)) (hR : rm3_isRolling.frames + 1 ≤ R.frames ∧ 8 + (2 + 11) + rm3_isRolling.locals ≤ R.locals) {x1 : Int32} {t : Int32} (hf : f3_isRolling_0 v0 x1 = some t) (hrest : (rest.map fun v => v.category).sum ≤ 8) (hdg : decode cc pc = .ok (.invokevirtual index, 3)) (hc : cells ≤ R.cells ∧ slots ≤ R.slots) (kk : W p l e R s m args below meth c H locs cells slots Q (F0 m (pc + 3) ls (.int t :: rest))) : W p l e R s m args below meth c H locs cells slots Q (F0 m pc ls (.int x1 :: .ref (ad (15 * k)) :: rest)) := by
  subst hM
  exact W.callR (W.runV (As := [.int x1]) X.1 (c3_isRolling l hk x1 hf) (cwV 1 X.1.2.2.2.2 hG rfl rfl rfl (by decide +kernel) hR) ⟨cB_bl, va_recv X.2.2.2 hP (ci := 3) (q0 := 15 * k) rfl (cw_ate (by omega) ((cw_st (r := 0) hk (by omega)).trans rfl)), fun U hU hW => ⟨rfl, by rw [hU]; exact hP, va_K.moved hW.alike X.2.2.2⟩⟩ rfl rfl hls rfl (lv_room hrest) hdg hc) kk
/-! OreRailway$State.addCar()I -/
def rm3_addCar : Room := { frames := 1, cells := 0, slots := 0, locals := 20 }
def f3_addCar_16 (v0 : Nat → Int32) : Option (Int32 × (Nat → Int32)) := some ((-1), v0)
set_option maxRecDepth 100000 in
set_option maxHeartbeats 4000000 in
theorem w3_addCar_16 {p : Program} {l : Launch} {e : Env} {s : State} {m : MethodId} {args : Array Value} {below : List Frame} {meth : Method} {c : Code} {D : va_G} {Y : cYt} {ad : Nat → Nat} {μ : Nat → Nat → Int32} {k : Nat} {v0 : Nat → Int32} (X : cX D Y p s m args meth c cX3_addCar 1 RX3 (some .int)) (hI : cInj ad) (hk : k < 10)  {t : Int32 × (Nat → Int32)}  {H : Heap} {locs : List Loc} (hH : cH D Y ad (s1 μ k v0) s H locs) {ls : Array Slot} (hl : lv_has ls 1 []) (hf : f3_addCar_16 v0 = some t) : W p l e rm3_addCar s m args below meth c H locs 0 0 (MQ below (va_Qi (fun (r9 : Int32) (_ : Unit) => r9 = t.1) (fun _ t9 => cB D Y ad (s1 μ k t.2) t9) (cA ad s.heap.size)) args s 0 0 (cA ad s.heap.size)) (F0 m 16 ls []) := by
  obtain ⟨⟨hx, hb, hml, hown, hts⟩, hr, hlk, hK⟩ := id X
  replace hf : (some ((-1), v0)) = some t := hf
  refine lv_iconst (v := (-1)) hx hb dX3_addCar_16 (by decide) ?_
  obtain rfl := so_i hf
  exact cr_iw X hH rfl dX3_addCar_17
def f3_addCar_0 (v0 : Nat → Int32) : Option (Int32 × (Nat → Int32)) := if (v0 162) < 0 then (f3_addCar_16 v0) else (if (v0 162) < 8 then (gd (v0 162) 8 (Option.bind (f0_makeNew_0 ((Int32.toNatClampNeg (v0 162))) v0) (fun t4 => some (((upd t4 162 ((t4 162) + 1)) 162) - 1, upd t4 162 ((t4 162) + 1))))) else (f3_addCar_16 v0))
set_option maxRecDepth 100000 in
set_option maxHeartbeats 4000000 in
theorem w3_addCar_0 {p : Program} {l : Launch} {e : Env} {s : State} {m : MethodId} {args : Array Value} {below : List Frame} {meth : Method} {c : Code} {D : va_G} {Y : cYt} {ad : Nat → Nat} {μ : Nat → Nat → Int32} {k : Nat} {v0 : Nat → Int32} (X : cX D Y p s m args meth c cX3_addCar 1 RX3 (some .int)) (hI : cInj ad) (hk : k < 10)  {t : Int32 × (Nat → Int32)}  {H : Heap} {locs : List Loc} (hH : cH D Y ad (s1 μ k v0) s H locs) {ls : Array Slot} (hl : lv_has ls 1 [(0, .ref (ad (15 * k)))]) (hf : f3_addCar_0 v0 = some t) : W p l e rm3_addCar s m args below meth c H locs 0 0 (MQ below (va_Qi (fun (r9 : Int32) (_ : Unit) => r9 = t.1) (fun _ t9 => cB D Y ad (s1 μ k t.2) t9) (cA ad s.heap.size)) args s 0 0 (cA ad s.heap.size)) (F0 m 0 ls []) := by
  obtain ⟨⟨hx, hb, hml, hown, hts⟩, hr, hlk, hK⟩ := id X
  replace hf : (if (v0 162) < 0 then (f3_addCar_16 v0) else (if (v0 162) < 8 then (gd (v0 162) 8 (Option.bind (f0_makeNew_0 ((Int32.toNatClampNeg (v0 162))) v0) (fun t4 => some (((upd t4 162 ((t4 162) + 1)) 162) - 1, upd t4 162 ((t4 162) + 1))))) else (f3_addCar_16 v0))) = some t := hf
  refine lv_aload_n hx hb dX3_addCar_0 rfl (lv_at hl 0 rfl) ?_
  refine cr_gSt X hk s1_k hH.1 (i := 6) (v := .int (v0 162)) (by decide) gfX3_44 rfl dX3_addCar_1 ?_
  refine lv_if_lt (tgt := 16) hx hb dX3_addCar_4 (by decide) (fun c1 => ?_) (fun c1 => ?_)
  · have hf := it_t c1 hf
    exact w3_addCar_16 X hI hk hH (lv_sub hl [] rfl) hf
  · have hf := it_f c1 hf
    refine lv_aload_n hx hb dX3_addCar_7 rfl (lv_at hl 0 rfl) ?_
    refine cr_gSt X hk s1_k hH.1 (i := 6) (v := .int (v0 162)) (by decide) gfX3_44 rfl dX3_addCar_8 ?_
    refine lv_bipush (v := 8) hx hb dX3_addCar_11 (by decide) ?_
    refine lv_icmp_lt (tgt := 18) hx hb dX3_addCar_13 (by decide) (fun c2 => ?_) (fun c2 => ?_)
    · have hf := it_t c2 hf
      refine lv_aload_n hx hb dX3_addCar_18 rfl (lv_at hl 0 rfl) ?_
      refine cr_gSt X hk s1_k hH.1 (i := 4) (v := .ref (ad (15 * k + 5))) (by decide) gfX3_26 rfl dX3_addCar_19 ?_
      refine lv_aload_n hx hb dX3_addCar_22 rfl (lv_at hl 0 rfl) ?_
      refine cr_gSt X hk s1_k hH.1 (i := 6) (v := .int (v0 162)) (by decide) gfX3_44 rfl dX3_addCar_23 ?_
      obtain ⟨hi3, hf⟩ := gd_o hf
      refine cr_cars X hk hH.1 hi3 dX3_addCar_26 ?_
      obtain ⟨t4, ht4, hf⟩ := bd_o hf
      refine k0_makeNew X hI hk (vin_lt hi3) hH hl.1 qX3_70 ⟨Nat.le_of_ble_eq_true rfl, Nat.le_of_ble_eq_true rfl⟩ ht4 (Nat.le_of_ble_eq_true rfl) dX3_addCar_27 ⟨Nat.zero_le _, Nat.zero_le _⟩ (fun H locs hH => ?_)
      refine lv_aload_n hx hb dX3_addCar_30 rfl (lv_at hl 0 rfl) ?_
      refine lv_dup hx hb dX3_addCar_31 rfl ?_
      refine cr_gSt X hk s1_k hH.1 (i := 6) (v := .int (t4 162)) (by decide) gfX3_44 rfl dX3_addCar_32 ?_
      refine lv_iconst (v := 1) hx hb dX3_addCar_35 (by decide) ?_
      refine lv_iadd hx hb dX3_addCar_36 ?_
      refine cv_pSt X hI hk hH 6 (by decide) gfX3_44 dX3_addCar_37 (fun H locs hH => ?_)
      refine lv_aload_n hx hb dX3_addCar_40 rfl (lv_at hl 0 rfl) ?_
      refine cr_gSt X hk s1_k hH.1 (i := 6) (v := .int ((upd t4 162 ((t4 162) + 1)) 162)) (by decide) gfX3_44 rfl dX3_addCar_41 ?_
      refine lv_iconst (v := 1) hx hb dX3_addCar_44 (by decide) ?_
      refine lv_isub hx hb dX3_addCar_45 ?_
      obtain rfl := so_i hf
      exact cr_iw X hH rfl dX3_addCar_46
    · have hf := it_f c2 hf
      exact w3_addCar_16 X hI hk hH (lv_sub hl [] rfl) hf
set_option maxRecDepth 100000 in
set_option maxHeartbeats 4000000 in
theorem c3_addCar (l : Launch) {D : va_G} {Y : cYt} {ad : Nat → Nat} {μ : Nat → Nat → Int32} {k : Nat} (hk : k < 10) (hI : cInj ad) (sz : Nat) {t : Int32 × (Nat → Int32)} (hf : f3_addCar_0 (μ k) = some t) : Met l yX3_addCar uX3_addCar rm3_addCar (va_Pc [.ref (ad (15 * k))] (fun U => U.heap.size = sz ∧ cB D Y ad μ U)) (va_Qi (fun (r9 : Int32) (_ : Unit) => r9 = t.1) (fun _ t9 => cB D Y ad (s1 μ k t.2) t9) (cA ad sz)) 0 0 (cA ad sz) := by
  refine Met.ofW (cc := cX3_addCar) (maxL := 1) (ret := (some .int)) (by decide) rfl ?_
  intro p e s m args below meth c s₁ B hml hv
  obtain ⟨rfl, hsz, hP, hK⟩ := hv
  subst hsz
  have X : cX D Y p s m ([.ref (ad (15 * k))] : List Value).toArray meth c cX3_addCar 1 RX3 (some .int) := ⟨⟨B.exec, B.bytes, hml, findClass_of_methodNamed B.named, fun w h => atoms_spec (ws := uX3_addCar) B.pre w (List.mem_cons_of_mem _ h)⟩, B.returns, B.notSynchronized, hK⟩
  have hl := lv_entry ([.ref (ad (15 * k))]) (n := 1) (Nat.le_of_ble_eq_true rfl)
  rw [lg_entry_eq]
  generalize (lg_sl ([.ref (ad (15 * k))]) ++ List.replicate (1 - (lg_sl ([.ref (ad (15 * k))])).length) Slot.unset).toArray = ls at hl ⊢
  have hl : lv_has ls 1 [(0, .ref (ad (15 * k)))] := hl
  exact w3_addCar_0 X hI hk (cH_in k ⟨hP, va_S.rf⟩) (lv_sub hl [0] rfl) hf
set_option maxRecDepth 100000 in
set_option maxHeartbeats 4000000 in
theorem km3_addCar {p : Program} {l : Launch} {e : Env} {R : Room} {s : State} {m : MethodId} {args : Array Value} {below : List Frame} {meth : Method} {c : Code} {cc : ByteArray} {nL : Nat} {own : String} {ret : Option FieldType} {D : va_G} {Y : cYt} {ad : Nat → Nat} {μ : Nat → Nat → Int32} {H : Heap} {locs : List Loc} {cells slots : Nat} {Q : State → Prop} {pc : Nat} {ls : Array Slot} {rest : List Value} (X : cX D Y p s m args meth c cc nL own ret) {k : Nat} (hI : cInj ad) (hk : k < 10) (hH : cH D Y ad μ s H locs) (hls : ls.size = nL) {index : Nat} (hG : GoodIn gw (wsV own index RX3 yX3_addCar uX3_addCar)) (hR : rm3_addCar.frames + 1 ≤ R.frames ∧ 8 + (1 + 11) + rm3_addCar.locals ≤ R.locals) {t : Int32 × (Nat → Int32)} (hf : f3_addCar_0 (μ k) = some t) (hrest : (rest.map fun v => v.category).sum ≤ 8) (hdg : decode cc pc = .ok (.invokevirtual index, 3)) (hc : cells ≤ R.cells ∧ slots ≤ R.slots) (kk : ∀ (H1 : Heap) (locs1 : List Loc), cH D Y ad (s1 μ k t.2) s H1 locs1 → W p l e R s m args below meth c H1 locs1 cells slots Q (F0 m (pc + 3) ls (.int t.1 :: rest))) : W p l e R s m args below meth c H locs cells slots Q (F0 m pc ls (.ref (ad (15 * k)) :: rest)) := by
  have hA : ∀ q, cA ad H.size q → cA ad s.heap.size q := fun q h => h.elim Or.inl (fun h => Or.inr (Nat.le_trans hH.2.1 h))
  refine va_calli (va_runV (As := []) (rest := rest) X.1 (c3_addCar l hk hI H.size hf) (cwV 0 X.1.2.2.2.2 hG rfl rfl rfl (by decide +kernel) hR) ⟨cBs_bl, va_recv X.2.2.2 hH.1 (ci := 3) (q0 := 15 * k) rfl (cw_ate (by omega) ((cw_st (r := 0) hk (by omega)).trans rfl)), fun U hU hW => ⟨rfl, by rw [hU], by rw [hU]; exact hH.1, va_K.moved hW.alike X.2.2.2⟩⟩ rfl rfl hls rfl (lv_room hrest) hdg hc) hH.2 (fun q _ h => hA q h) hA (fun r9 u t9 H1 locs1 ht hvm hw hB hz1 hk1 hS => ?_)
  subst hw
  exact kk H1 locs1 ⟨by rw [← ht]; exact hB.1, hS⟩
set_option maxRecDepth 100000 in
set_option maxHeartbeats 4000000 in
theorem k3_addCar {p : Program} {l : Launch} {e : Env} {R : Room} {s : State} {m : MethodId} {args : Array Value} {below : List Frame} {meth : Method} {c : Code} {cc : ByteArray} {nL : Nat} {own : String} {ret : Option FieldType} {D : va_G} {Y : cYt} {ad : Nat → Nat} {μ : Nat → Nat → Int32} {H : Heap} {locs : List Loc} {cells slots : Nat} {Q : State → Prop} {pc : Nat} {ls : Array Slot} {rest : List Value} (X : cX D Y p s m args meth c cc nL own ret) {k : Nat} {v0 : Nat → Int32} (hI : cInj ad) (hk : k < 10) (hH : cH D Y ad (s1 μ k v0) s H locs) (hls : ls.size = nL) {index : Nat} (hG : GoodIn gw (wsV own index RX3 yX3_addCar uX3_addCar)) (hR : rm3_addCar.frames + 1 ≤ R.frames ∧ 8 + (1 + 11) + rm3_addCar.locals ≤ R.locals) {t : Int32 × (Nat → Int32)} (hf : f3_addCar_0 v0 = some t) (hrest : (rest.map fun v => v.category).sum ≤ 8) (hdg : decode cc pc = .ok (.invokevirtual index, 3)) (hc : cells ≤ R.cells ∧ slots ≤ R.slots) (kk : ∀ (H1 : Heap) (locs1 : List Loc), cH D Y ad (s1 μ k t.2) s H1 locs1 → W p l e R s m args below meth c H1 locs1 cells slots Q (F0 m (pc + 3) ls (.int t.1 :: rest))) : W p l e R s m args below meth c H locs cells slots Q (F0 m pc ls (.ref (ad (15 * k)) :: rest)) := by
  have hf2 : f3_addCar_0 (s1 μ k v0 k) = some t := by rw [s1_k]; exact hf
  exact km3_addCar (μ := s1 μ k v0) X hI hk hH hls hG hR hf2 hrest hdg hc (fun H1 locs1 h => kk H1 locs1 (by rw [s1_s1] at h; exact h))
/-! OreRailway$State.canLoad(II)Z -/
def rm3_canLoad : Room := { frames := 1, cells := 0, slots := 0, locals := 21 }
def f3_canLoad_41 (v0 : Nat → Int32) (y0 : Int32) : Option (Int32) := gz y0 (some y0)
set_option maxRecDepth 100000 in
set_option maxHeartbeats 4000000 in
theorem w3_canLoad_41 {p : Program} {l : Launch} {e : Env} {s : State} {m : MethodId} {args : Array Value} {below : List Frame} {meth : Method} {c : Code} {D : va_G} {Y : cYt} {ad : Nat → Nat} {μ : Nat → Nat → Int32} {k : Nat} {v0 : Nat → Int32} (X : cX D Y p s m args meth c cX3_canLoad 3 RX3 (some .boolean)) (hk : k < 10) (hM : μ k = v0) (hP : va_P D vwCl (cwW Y ad μ) s.heap) {y0 : Int32} {t : Int32}  {ls : Array Slot} (hl : lv_has ls 3 []) (hf : f3_canLoad_41 v0 y0 = some t) : W p l e rm3_canLoad s m args below meth c s.heap [] 0 0 (MQ below (QcRead t) args s 0 0 (fun _ => False)) (F0 m 41 ls [.int y0]) := by
  obtain ⟨⟨hx, hb, hml, hown, hts⟩, hr, hlk, hK⟩ := id X
  replace hf : (gz y0 (some y0)) = some t := hf
  obtain ⟨hz, hf⟩ := gz_o hf
  obtain rfl := so_i hf
  exact rd_z hx hb hr hlk (nz_z hz) dX3_canLoad_41
def f3_canLoad_40 (v0 : Nat → Int32) : Option (Int32) := f3_canLoad_41 v0 0
set_option maxRecDepth 100000 in
set_option maxHeartbeats 4000000 in
theorem w3_canLoad_40 {p : Program} {l : Launch} {e : Env} {s : State} {m : MethodId} {args : Array Value} {below : List Frame} {meth : Method} {c : Code} {D : va_G} {Y : cYt} {ad : Nat → Nat} {μ : Nat → Nat → Int32} {k : Nat} {v0 : Nat → Int32} (X : cX D Y p s m args meth c cX3_canLoad 3 RX3 (some .boolean)) (hk : k < 10) (hM : μ k = v0) (hP : va_P D vwCl (cwW Y ad μ) s.heap) {t : Int32}  {ls : Array Slot} (hl : lv_has ls 3 []) (hf : f3_canLoad_40 v0  = some t) : W p l e rm3_canLoad s m args below meth c s.heap [] 0 0 (MQ below (QcRead t) args s 0 0 (fun _ => False)) (F0 m 40 ls []) := by
  obtain ⟨⟨hx, hb, hml, hown, hts⟩, hr, hlk, hK⟩ := id X
  replace hf : (f3_canLoad_41 v0 0) = some t := hf
  refine lv_iconst (v := 0) hx hb dX3_canLoad_40 (by decide) ?_
  exact w3_canLoad_41 X hk hM hP  (lv_sub hl [] rfl) hf
def f3_canLoad_0 (v0 : Nat → Int32) (x1 : Int32) (x2 : Int32) : Option (Int32) := Option.bind (f3_hasCar_0 v0 x1) (fun t1 => if t1 = 0 then (f3_canLoad_40 v0) else (gd x1 8 (if (v0 (90 + 9 * ((Int32.toNatClampNeg x1)) + 0)) = 0 then (gd x1 8 (if 20 < ((v0 (90 + 9 * ((Int32.toNatClampNeg x1)) + 1)) + x2) then (f3_canLoad_40 v0) else (f3_canLoad_41 v0 1))) else (f3_canLoad_40 v0))))
set_option maxRecDepth 100000 in
set_option maxHeartbeats 4000000 in
theorem w3_canLoad_0 {p : Program} {l : Launch} {e : Env} {s : State} {m : MethodId} {args : Array Value} {below : List Frame} {meth : Method} {c : Code} {D : va_G} {Y : cYt} {ad : Nat → Nat} {μ : Nat → Nat → Int32} {k : Nat} {v0 : Nat → Int32} (X : cX D Y p s m args meth c cX3_canLoad 3 RX3 (some .boolean)) (hk : k < 10) (hM : μ k = v0) (hP : va_P D vwCl (cwW Y ad μ) s.heap) {x1 : Int32} {x2 : Int32} {t : Int32}  {ls : Array Slot} (hl : lv_has ls 3 [(0, .ref (ad (15 * k))), (1, .int x1), (2, .int x2)]) (hf : f3_canLoad_0 v0 x1 x2 = some t) : W p l e rm3_canLoad s m args below meth c s.heap [] 0 0 (MQ below (QcRead t) args s 0 0 (fun _ => False)) (F0 m 0 ls []) := by
  obtain ⟨⟨hx, hb, hml, hown, hts⟩, hr, hlk, hK⟩ := id X
  replace hf : (Option.bind (f3_hasCar_0 v0 x1) (fun t1 => if t1 = 0 then (f3_canLoad_40 v0) else (gd x1 8 (if (v0 (90 + 9 * ((Int32.toNatClampNeg x1)) + 0)) = 0 then (gd x1 8 (if 20 < ((v0 (90 + 9 * ((Int32.toNatClampNeg x1)) + 1)) + x2) then (f3_canLoad_40 v0) else (f3_canLoad_41 v0 1))) else (f3_canLoad_40 v0))))) = some t := hf
  refine lv_aload_n hx hb dX3_canLoad_0 rfl (lv_at hl 0 rfl) ?_
  refine lv_iload_n hx hb dX3_canLoad_1 rfl (lv_at hl 1 rfl) ?_
  obtain ⟨t1, ht1, hf⟩ := bd_o hf
  refine k3_hasCar X hk hM hP hl.1 qX3_63 ⟨Nat.le_of_ble_eq_true rfl, Nat.le_of_ble_eq_true rfl⟩ ht1 (Nat.le_of_ble_eq_true rfl) dX3_canLoad_2 ⟨Nat.zero_le _, Nat.zero_le _⟩ ?_
  refine lv_if_eq (tgt := 40) hx hb dX3_canLoad_5 (by decide) (fun c2 => ?_) (fun c2 => ?_)
  · have hf := it_t c2 hf
    exact w3_canLoad_40 X hk hM hP  (lv_sub hl [] rfl) hf
  · have hf := it_f c2 hf
    refine lv_aload_n hx hb dX3_canLoad_8 rfl (lv_at hl 0 rfl) ?_
    refine cr_gSt X hk hM hP (i := 4) (v := .ref (ad (15 * k + 5))) (by decide) gfX3_26 rfl dX3_canLoad_9 ?_
    refine lv_iload_n hx hb dX3_canLoad_12 rfl (lv_at hl 1 rfl) ?_
    obtain ⟨hi3, hf⟩ := gd_o hf
    refine cr_cars X hk hP hi3 dX3_canLoad_13 ?_
    refine cr_gCar X hk hM (j := (Int32.toNatClampNeg x1)) (vin_lt hi3) hP (i := 0) (v := .int (v0 (90 + 9 * ((Int32.toNatClampNeg x1)) + 0))) (by decide) gfX3_67 rfl dX3_canLoad_14 ?_
    refine lv_if_ne (tgt := 40) hx hb dX3_canLoad_17 (by decide) (fun c4 => ?_) (fun c4 => ?_)
    · have hf := it_f c4 hf
      exact w3_canLoad_40 X hk hM hP  (lv_sub hl [] rfl) hf
    · have hf := it_t c4 hf
      refine lv_aload_n hx hb dX3_canLoad_20 rfl (lv_at hl 0 rfl) ?_
      refine cr_gSt X hk hM hP (i := 4) (v := .ref (ad (15 * k + 5))) (by decide) gfX3_26 rfl dX3_canLoad_21 ?_
      refine lv_iload_n hx hb dX3_canLoad_24 rfl (lv_at hl 1 rfl) ?_
      obtain ⟨hi5, hf⟩ := gd_o hf
      refine cr_cars X hk hP hi5 dX3_canLoad_25 ?_
      refine cr_gCar X hk hM (j := (Int32.toNatClampNeg x1)) (vin_lt hi5) hP (i := 1) (v := .int (v0 (90 + 9 * ((Int32.toNatClampNeg x1)) + 1))) (by decide) gfX3_73 rfl dX3_canLoad_26 ?_
      refine lv_iload_n hx hb dX3_canLoad_29 rfl (lv_at hl 2 rfl) ?_
      refine lv_iadd hx hb dX3_canLoad_30 ?_
      refine lv_bipush (v := 20) hx hb dX3_canLoad_31 (by decide) ?_
      refine lv_icmp_gt (tgt := 40) hx hb dX3_canLoad_33 (by decide) (fun c6 => ?_) (fun c6 => ?_)
      · have hf := it_t c6 hf
        exact w3_canLoad_40 X hk hM hP  (lv_sub hl [] rfl) hf
      · have hf := it_f c6 hf
        refine lv_iconst (v := 1) hx hb dX3_canLoad_36 (by decide) ?_
        refine lv_goto (tgt := 41) hx hb dX3_canLoad_37 (by decide) ?_
        exact w3_canLoad_41 X hk hM hP  (lv_sub hl [] rfl) hf
set_option maxRecDepth 100000 in
set_option maxHeartbeats 4000000 in
theorem c3_canLoad (l : Launch) {D : va_G} {Y : cYt} {ad : Nat → Nat} {μ : Nat → Nat → Int32} {k : Nat} (hk : k < 10) (x1 : Int32) (x2 : Int32) {t : Int32} (hf : f3_canLoad_0 (μ k) x1 x2 = some t) : Met l yX3_canLoad uX3_canLoad rm3_canLoad (va_Pc [.ref (ad (15 * k)), .int x1, .int x2] (cB D Y ad μ)) (QcRead t) 0 0 (fun _ => False) := by
  refine Met.ofW (cc := cX3_canLoad) (maxL := 3) (ret := (some .boolean)) (by decide) rfl ?_
  intro p e s m args below meth c s₁ B hml hv
  obtain ⟨rfl, hP, hK⟩ := hv
  have X : cX D Y p s m ([.ref (ad (15 * k)), .int x1, .int x2] : List Value).toArray meth c cX3_canLoad 3 RX3 (some .boolean) := ⟨⟨B.exec, B.bytes, hml, findClass_of_methodNamed B.named, fun w h => atoms_spec (ws := uX3_canLoad) B.pre w (List.mem_cons_of_mem _ h)⟩, B.returns, B.notSynchronized, hK⟩
  have hl := lv_entry ([.ref (ad (15 * k)), .int x1, .int x2]) (n := 3) (Nat.le_of_ble_eq_true rfl)
  rw [lg_entry_eq]
  generalize (lg_sl ([.ref (ad (15 * k)), .int x1, .int x2]) ++ List.replicate (3 - (lg_sl ([.ref (ad (15 * k)), .int x1, .int x2])).length) Slot.unset).toArray = ls at hl ⊢
  have hl : lv_has ls 3 [(0, .ref (ad (15 * k))), (1, .int x1), (2, .int x2)] := hl
  exact w3_canLoad_0 X hk rfl hP (lv_sub hl [0, 1, 2] rfl) hf
set_option maxRecDepth 100000 in
set_option maxHeartbeats 4000000 in
theorem k3_canLoad {p : Program} {l : Launch} {e : Env} {R : Room} {s : State} {m : MethodId} {args : Array Value} {below : List Frame} {meth : Method} {c : Code} {cc : ByteArray} {nL : Nat} {own : String} {ret : Option FieldType} {D : va_G} {Y : cYt} {ad : Nat → Nat} {μ : Nat → Nat → Int32} {H : Heap} {locs : List Loc} {cells slots : Nat} {Q : State → Prop} {pc : Nat} {ls : Array Slot} {rest : List Value} (X : cX D Y p s m args meth c cc nL own ret) {k : Nat} {v0 : Nat → Int32} (hk : k < 10) (hM : μ k = v0) (hP : va_P D vwCl (cwW Y ad μ) H) (hls : ls.size = nL) {index : Nat} (hG : GoodIn gw (wsV own index RX3 yX3_canLoad uX3_canLoad)) (hR : rm3_canLoad.frames + 1 ≤ R.frames ∧ 8 + (3 + 11) + rm3_canLoad.locals ≤ R.locals) {x1 : Int32} {x2 : Int32} {t : Int32} (hf : f3_canLoad_0 v0 x1 x2 = some t) (hrest : (rest.map fun v => v.category).sum ≤ 8) (hdg : decode cc pc = .ok (.invokevirtual index, 3)) (hc : cells ≤ R.cells ∧ slots ≤ R.slots) (kk : W p l e R s m args below meth c H locs cells slots Q (F0 m (pc + 3) ls (.int t :: rest))) : W p l e R s m args below meth c H locs cells slots Q (F0 m pc ls (.int x2 :: .int x1 :: .ref (ad (15 * k)) :: rest)) := by
  subst hM
  exact W.callR (W.runV (As := [.int x1, .int x2]) X.1 (c3_canLoad l hk x1 x2 hf) (cwV 2 X.1.2.2.2.2 hG rfl rfl rfl (by decide +kernel) hR) ⟨cB_bl, va_recv X.2.2.2 hP (ci := 3) (q0 := 15 * k) rfl (cw_ate (by omega) ((cw_st (r := 0) hk (by omega)).trans rfl)), fun U hU hW => ⟨rfl, by rw [hU]; exact hP, va_K.moved hW.alike X.2.2.2⟩⟩ rfl rfl hls rfl (lv_room hrest) hdg hc) kk
/-! OreRailway$State.addOre(II)I -/
def rm3_addOre : Room := { frames := 0, cells := 0, slots := 0, locals := 0 }
def f3_addOre_25 (x1 : Int32) (v0 : Nat → Int32) : Option (Int32 × (Nat → Int32)) := gd x1 8 (some (v0 (90 + 9 * ((Int32.toNatClampNeg x1)) + 1), v0))
set_option maxRecDepth 100000 in
set_option maxHeartbeats 4000000 in
theorem w3_addOre_25 {p : Program} {l : Launch} {e : Env} {s : State} {m : MethodId} {args : Array Value} {below : List Frame} {meth : Method} {c : Code} {D : va_G} {Y : cYt} {ad : Nat → Nat} {μ : Nat → Nat → Int32} {k : Nat} {v0 : Nat → Int32} (X : cX D Y p s m args meth c cX3_addOre 3 RX3 (some .int)) (hI : cInj ad) (hk : k < 10)  {x1 : Int32} {t : Int32 × (Nat → Int32)}  {H : Heap} {locs : List Loc} (hH : cH D Y ad (s1 μ k v0) s H locs) {ls : Array Slot} (hl : lv_has ls 3 [(0, .ref (ad (15 * k))), (1, .int x1)]) (hf : f3_addOre_25 x1 v0 = some t) : W p l e rm3_addOre s m args below meth c H locs 0 0 (MQ below (va_Qi (fun (r9 : Int32) (_ : Unit) => r9 = t.1) (fun _ t9 => cB D Y ad (s1 μ k t.2) t9) (cA ad s.heap.size)) args s 0 0 (cA ad s.heap.size)) (F0 m 25 ls []) := by
  obtain ⟨⟨hx, hb, hml, hown, hts⟩, hr, hlk, hK⟩ := id X
  replace hf : (gd x1 8 (some (v0 (90 + 9 * ((Int32.toNatClampNeg x1)) + 1), v0))) = some t := hf
  refine lv_aload_n hx hb dX3_addOre_25 rfl (lv_at hl 0 rfl) ?_
  refine cr_gSt X hk s1_k hH.1 (i := 4) (v := .ref (ad (15 * k + 5))) (by decide) gfX3_26 rfl dX3_addOre_26 ?_
  refine lv_iload_n hx hb dX3_addOre_29 rfl (lv_at hl 1 rfl) ?_
  obtain ⟨hi1, hf⟩ := gd_o hf
  refine cr_cars X hk hH.1 hi1 dX3_addOre_30 ?_
  refine cr_gCar X hk s1_k (j := (Int32.toNatClampNeg x1)) (vin_lt hi1) hH.1 (i := 1) (v := .int (v0 (90 + 9 * ((Int32.toNatClampNeg x1)) + 1))) (by decide) gfX3_73 rfl dX3_addOre_31 ?_
  obtain rfl := so_i hf
  exact cr_iw X hH rfl dX3_addOre_34
def f3_addOre_0 (x1 : Int32) (x2 : Int32) (v0 : Nat → Int32) : Option (Int32 × (Nat → Int32)) := gd x1 8 (f3_addOre_25 x1 (upd (upd v0 (90 + 9 * ((Int32.toNatClampNeg x1)) + 1) ((v0 (90 + 9 * ((Int32.toNatClampNeg x1)) + 1)) + x2)) 164 (((upd v0 (90 + 9 * ((Int32.toNatClampNeg x1)) + 1) ((v0 (90 + 9 * ((Int32.toNatClampNeg x1)) + 1)) + x2)) 164) + x2)))
set_option maxRecDepth 100000 in
set_option maxHeartbeats 4000000 in
theorem w3_addOre_0 {p : Program} {l : Launch} {e : Env} {s : State} {m : MethodId} {args : Array Value} {below : List Frame} {meth : Method} {c : Code} {D : va_G} {Y : cYt} {ad : Nat → Nat} {μ : Nat → Nat → Int32} {k : Nat} {v0 : Nat → Int32} (X : cX D Y p s m args meth c cX3_addOre 3 RX3 (some .int)) (hI : cInj ad) (hk : k < 10)  {x1 : Int32} {x2 : Int32} {t : Int32 × (Nat → Int32)}  {H : Heap} {locs : List Loc} (hH : cH D Y ad (s1 μ k v0) s H locs) {ls : Array Slot} (hl : lv_has ls 3 [(0, .ref (ad (15 * k))), (1, .int x1), (2, .int x2)]) (hf : f3_addOre_0 x1 x2 v0 = some t) : W p l e rm3_addOre s m args below meth c H locs 0 0 (MQ below (va_Qi (fun (r9 : Int32) (_ : Unit) => r9 = t.1) (fun _ t9 => cB D Y ad (s1 μ k t.2) t9) (cA ad s.heap.size)) args s 0 0 (cA ad s.heap.size)) (F0 m 0 ls []) := by
  obtain ⟨⟨hx, hb, hml, hown, hts⟩, hr, hlk, hK⟩ := id X
  replace hf : (gd x1 8 (f3_addOre_25 x1 (upd (upd v0 (90 + 9 * ((Int32.toNatClampNeg x1)) + 1) ((v0 (90 + 9 * ((Int32.toNatClampNeg x1)) + 1)) + x2)) 164 (((upd v0 (90 + 9 * ((Int32.toNatClampNeg x1)) + 1) ((v0 (90 + 9 * ((Int32.toNatClampNeg x1)) + 1)) + x2)) 164) + x2)))) = some t := hf
  refine lv_aload_n hx hb dX3_addOre_0 rfl (lv_at hl 0 rfl) ?_
  refine cr_gSt X hk s1_k hH.1 (i := 4) (v := .ref (ad (15 * k + 5))) (by decide) gfX3_26 rfl dX3_addOre_1 ?_
  refine lv_iload_n hx hb dX3_addOre_4 rfl (lv_at hl 1 rfl) ?_
  obtain ⟨hi1, hf⟩ := gd_o hf
  refine cr_cars X hk hH.1 hi1 dX3_addOre_5 ?_
  refine lv_dup hx hb dX3_addOre_6 rfl ?_
  refine cr_gCar X hk s1_k (j := (Int32.toNatClampNeg x1)) (vin_lt hi1) hH.1 (i := 1) (v := .int (v0 (90 + 9 * ((Int32.toNatClampNeg x1)) + 1))) (by decide) gfX3_73 rfl dX3_addOre_7 ?_
  refine lv_iload_n hx hb dX3_addOre_10 rfl (lv_at hl 2 rfl) ?_
  refine lv_iadd hx hb dX3_addOre_11 ?_
  refine cv_pCar X hI hk (vin_lt hi1) hH 1 (by decide) gfX3_73 dX3_addOre_12 (fun H locs hH => ?_)
  refine lv_aload_n hx hb dX3_addOre_15 rfl (lv_at hl 0 rfl) ?_
  refine lv_dup hx hb dX3_addOre_16 rfl ?_
  refine cr_gSt X hk s1_k hH.1 (i := 8) (v := .int ((upd v0 (90 + 9 * ((Int32.toNatClampNeg x1)) + 1) ((v0 (90 + 9 * ((Int32.toNatClampNeg x1)) + 1)) + x2)) 164)) (by decide) gfX3_51 rfl dX3_addOre_17 ?_
  refine lv_iload_n hx hb dX3_addOre_20 rfl (lv_at hl 2 rfl) ?_
  refine lv_iadd hx hb dX3_addOre_21 ?_
  refine cv_pSt X hI hk hH 8 (by decide) gfX3_51 dX3_addOre_22 (fun H locs hH => ?_)
  exact w3_addOre_25 X hI hk hH (lv_sub hl [0, 1] rfl) hf
set_option maxRecDepth 100000 in
set_option maxHeartbeats 4000000 in
theorem c3_addOre (l : Launch) {D : va_G} {Y : cYt} {ad : Nat → Nat} {μ : Nat → Nat → Int32} {k : Nat} (hk : k < 10) (hI : cInj ad) (sz : Nat) (x1 : Int32) (x2 : Int32) {t : Int32 × (Nat → Int32)} (hf : f3_addOre_0 x1 x2 (μ k) = some t) : Met l yX3_addOre uX3_addOre rm3_addOre (va_Pc [.ref (ad (15 * k)), .int x1, .int x2] (fun U => U.heap.size = sz ∧ cB D Y ad μ U)) (va_Qi (fun (r9 : Int32) (_ : Unit) => r9 = t.1) (fun _ t9 => cB D Y ad (s1 μ k t.2) t9) (cA ad sz)) 0 0 (cA ad sz) := by
  refine Met.ofW (cc := cX3_addOre) (maxL := 3) (ret := (some .int)) (by decide) rfl ?_
  intro p e s m args below meth c s₁ B hml hv
  obtain ⟨rfl, hsz, hP, hK⟩ := hv
  subst hsz
  have X : cX D Y p s m ([.ref (ad (15 * k)), .int x1, .int x2] : List Value).toArray meth c cX3_addOre 3 RX3 (some .int) := ⟨⟨B.exec, B.bytes, hml, findClass_of_methodNamed B.named, fun w h => atoms_spec (ws := uX3_addOre) B.pre w (List.mem_cons_of_mem _ h)⟩, B.returns, B.notSynchronized, hK⟩
  have hl := lv_entry ([.ref (ad (15 * k)), .int x1, .int x2]) (n := 3) (Nat.le_of_ble_eq_true rfl)
  rw [lg_entry_eq]
  generalize (lg_sl ([.ref (ad (15 * k)), .int x1, .int x2]) ++ List.replicate (3 - (lg_sl ([.ref (ad (15 * k)), .int x1, .int x2])).length) Slot.unset).toArray = ls at hl ⊢
  have hl : lv_has ls 3 [(0, .ref (ad (15 * k))), (1, .int x1), (2, .int x2)] := hl
  exact w3_addOre_0 X hI hk (cH_in k ⟨hP, va_S.rf⟩) (lv_sub hl [0, 1, 2] rfl) hf
set_option maxRecDepth 100000 in
set_option maxHeartbeats 4000000 in
theorem km3_addOre {p : Program} {l : Launch} {e : Env} {R : Room} {s : State} {m : MethodId} {args : Array Value} {below : List Frame} {meth : Method} {c : Code} {cc : ByteArray} {nL : Nat} {own : String} {ret : Option FieldType} {D : va_G} {Y : cYt} {ad : Nat → Nat} {μ : Nat → Nat → Int32} {H : Heap} {locs : List Loc} {cells slots : Nat} {Q : State → Prop} {pc : Nat} {ls : Array Slot} {rest : List Value} (X : cX D Y p s m args meth c cc nL own ret) {k : Nat} (hI : cInj ad) (hk : k < 10) (hH : cH D Y ad μ s H locs) (hls : ls.size = nL) {index : Nat} (hG : GoodIn gw (wsV own index RX3 yX3_addOre uX3_addOre)) (hR : rm3_addOre.frames + 1 ≤ R.frames ∧ 8 + (3 + 11) + rm3_addOre.locals ≤ R.locals) {x1 : Int32} {x2 : Int32} {t : Int32 × (Nat → Int32)} (hf : f3_addOre_0 x1 x2 (μ k) = some t) (hrest : (rest.map fun v => v.category).sum ≤ 8) (hdg : decode cc pc = .ok (.invokevirtual index, 3)) (hc : cells ≤ R.cells ∧ slots ≤ R.slots) (kk : ∀ (H1 : Heap) (locs1 : List Loc), cH D Y ad (s1 μ k t.2) s H1 locs1 → W p l e R s m args below meth c H1 locs1 cells slots Q (F0 m (pc + 3) ls (.int t.1 :: rest))) : W p l e R s m args below meth c H locs cells slots Q (F0 m pc ls (.int x2 :: .int x1 :: .ref (ad (15 * k)) :: rest)) := by
  have hA : ∀ q, cA ad H.size q → cA ad s.heap.size q := fun q h => h.elim Or.inl (fun h => Or.inr (Nat.le_trans hH.2.1 h))
  refine va_calli (va_runV (As := [.int x1, .int x2]) (rest := rest) X.1 (c3_addOre l hk hI H.size x1 x2 hf) (cwV 2 X.1.2.2.2.2 hG rfl rfl rfl (by decide +kernel) hR) ⟨cBs_bl, va_recv X.2.2.2 hH.1 (ci := 3) (q0 := 15 * k) rfl (cw_ate (by omega) ((cw_st (r := 0) hk (by omega)).trans rfl)), fun U hU hW => ⟨rfl, by rw [hU], by rw [hU]; exact hH.1, va_K.moved hW.alike X.2.2.2⟩⟩ rfl rfl hls rfl (lv_room hrest) hdg hc) hH.2 (fun q _ h => hA q h) hA (fun r9 u t9 H1 locs1 ht hvm hw hB hz1 hk1 hS => ?_)
  subst hw
  exact kk H1 locs1 ⟨by rw [← ht]; exact hB.1, hS⟩
set_option maxRecDepth 100000 in
set_option maxHeartbeats 4000000 in
theorem k3_addOre {p : Program} {l : Launch} {e : Env} {R : Room} {s : State} {m : MethodId} {args : Array Value} {below : List Frame} {meth : Method} {c : Code} {cc : ByteArray} {nL : Nat} {own : String} {ret : Option FieldType} {D : va_G} {Y : cYt} {ad : Nat → Nat} {μ : Nat → Nat → Int32} {H : Heap} {locs : List Loc} {cells slots : Nat} {Q : State → Prop} {pc : Nat} {ls : Array Slot} {rest : List Value} (X : cX D Y p s m args meth c cc nL own ret) {k : Nat} {v0 : Nat → Int32} (hI : cInj ad) (hk : k < 10) (hH : cH D Y ad (s1 μ k v0) s H locs) (hls : ls.size = nL) {index : Nat} (hG : GoodIn gw (wsV own index RX3 yX3_addOre uX3_addOre)) (hR : rm3_addOre.frames + 1 ≤ R.frames ∧ 8 + (3 + 11) + rm3_addOre.locals ≤ R.locals) {x1 : Int32} {x2 : Int32} {t : Int32 × (Nat → Int32)} (hf : f3_addOre_0 x1 x2 v0 = some t) (hrest : (rest.map fun v => v.category).sum ≤ 8) (hdg : decode cc pc = .ok (.invokevirtual index, 3)) (hc : cells ≤ R.cells ∧ slots ≤ R.slots) (kk : ∀ (H1 : Heap) (locs1 : List Loc), cH D Y ad (s1 μ k t.2) s H1 locs1 → W p l e R s m args below meth c H1 locs1 cells slots Q (F0 m (pc + 3) ls (.int t.1 :: rest))) : W p l e R s m args below meth c H locs cells slots Q (F0 m pc ls (.int x2 :: .int x1 :: .ref (ad (15 * k)) :: rest)) := by
  have hf2 : f3_addOre_0 x1 x2 (s1 μ k v0 k) = some t := by rw [s1_k]; exact hf
  exact km3_addOre (μ := s1 μ k v0) X hI hk hH hls hG hR hf2 hrest hdg hc (fun H1 locs1 h => kk H1 locs1 (by rw [s1_s1] at h; exact h))
/-! OreRailway$State.carsInSection(II)I -/
def rm3_carsInSection : Room := { frames := 0, cells := 0, slots := 0, locals := 0 }
def f3_carsInSection_52 (v0 : Nat → Int32) (K5 : Int32 → Int32 → Int32 → Int32 → Option (Int32)) (x1 : Int32) (x2 : Int32) (x3 : Int32) (x4 : Int32) : Option (Int32) := K5 x1 x2 x3 (x4 + 1)
set_option maxRecDepth 100000 in
set_option maxHeartbeats 4000000 in
theorem w3_carsInSection_52 {p : Program} {l : Launch} {e : Env} {s : State} {m : MethodId} {args : Array Value} {below : List Frame} {meth : Method} {c : Code} {D : va_G} {Y : cYt} {ad : Nat → Nat} {μ : Nat → Nat → Int32} {k : Nat} {v0 : Nat → Int32} (X : cX D Y p s m args meth c cX3_carsInSection 5 RX3 (some .int)) (hk : k < 10) (hM : μ k = v0) (hP : va_P D vwCl (cwW Y ad μ) s.heap) {x1 : Int32} {x2 : Int32} {x3 : Int32} {x4 : Int32} {t : Int32} {K5 : Int32 → Int32 → Int32 → Int32 → Option (Int32)} (hK5 : ∀ (x1 : Int32) (x2 : Int32) (x3 : Int32) (x4 : Int32) (ls : Array Slot), lv_has ls 5 [(0, .ref (ad (15 * k))), (1, .int x1), (2, .int x2), (3, .int x3), (4, .int x4)] → K5 x1 x2 x3 x4 = some t → W p l e rm3_carsInSection s m args below meth c s.heap [] 0 0 (MQ below (QcRead t) args s 0 0 (fun _ => False)) (F0 m 5 ls []))  {ls : Array Slot} (hl : lv_has ls 5 [(0, .ref (ad (15 * k))), (1, .int x1), (2, .int x2), (3, .int x3), (4, .int x4)]) (hf : f3_carsInSection_52 v0 K5 x1 x2 x3 x4 = some t) : W p l e rm3_carsInSection s m args below meth c s.heap [] 0 0 (MQ below (QcRead t) args s 0 0 (fun _ => False)) (F0 m 52 ls []) := by
  obtain ⟨⟨hx, hb, hml, hown, hts⟩, hr, hlk, hK⟩ := id X
  replace hf : (K5 x1 x2 x3 (x4 + 1)) = some t := hf
  refine lv_iinc (v := x4 + 1) (lv' := [(4, .int (x4 + 1)), (0, .ref (ad (15 * k))), (1, .int x1), (2, .int x2), (3, .int x3)]) hx hb dX3_carsInSection_52 hl (k := 4) rfl rfl (by decide) rfl (fun ls hl => ?_)
  refine lv_goto (tgt := 5) hx hb dX3_carsInSection_55 (by decide) ?_
  exact hK5 _ _ _ _ _ (lv_sub hl [1, 2, 3, 4, 0] rfl) hf
def f3_carsInSection_5 (v0 : Nat → Int32) : Nat → Int32 → Int32 → Int32 → Int32 → Option (Int32)
  | 0, _, _, _, _ => none
  | n + 1, x1, x2, x3, x4 => if (v0 162) ≤ x4 then (some x3) else (gd x4 8 (if (v0 (90 + 9 * ((Int32.toNatClampNeg x4)) + 0)) = x2 then (gd x4 8 (if ((v0 (90 + 9 * ((Int32.toNatClampNeg x4)) + 4)) / 10) = x1 then (f3_carsInSection_52 v0 (f3_carsInSection_5 v0 n) x1 x2 (x3 ||| (1 <<< (x4 &&& 31))) x4) else (f3_carsInSection_52 v0 (f3_carsInSection_5 v0 n) x1 x2 x3 x4))) else (f3_carsInSection_52 v0 (f3_carsInSection_5 v0 n) x1 x2 x3 x4)))
set_option maxRecDepth 100000 in
set_option maxHeartbeats 4000000 in
theorem w3_carsInSection_5 {p : Program} {l : Launch} {e : Env} {s : State} {m : MethodId} {args : Array Value} {below : List Frame} {meth : Method} {c : Code} {D : va_G} {Y : cYt} {ad : Nat → Nat} {μ : Nat → Nat → Int32} {k : Nat} {v0 : Nat → Int32} (X : cX D Y p s m args meth c cX3_carsInSection 5 RX3 (some .int)) (hk : k < 10) (hM : μ k = v0) (hP : va_P D vwCl (cwW Y ad μ) s.heap) {t : Int32} :
    ∀ (n : Nat) (x1 : Int32) (x2 : Int32) (x3 : Int32) (x4 : Int32) (ls : Array Slot), lv_has ls 5 [(0, .ref (ad (15 * k))), (1, .int x1), (2, .int x2), (3, .int x3), (4, .int x4)] → f3_carsInSection_5 v0 n x1 x2 x3 x4 = some t → W p l e rm3_carsInSection s m args below meth c s.heap [] 0 0 (MQ below (QcRead t) args s 0 0 (fun _ => False)) (F0 m 5 ls []) := by
  obtain ⟨⟨hx, hb, hml, hown, hts⟩, hr, hlk, hK⟩ := id X
  intro n
  induction n with
  | zero =>
    intro x1 x2 x3 x4 ls hl hf
    cases hf
  | succ n ih =>
    intro x1 x2 x3 x4 ls hl hf
    replace hf : (if (v0 162) ≤ x4 then (some x3) else (gd x4 8 (if (v0 (90 + 9 * ((Int32.toNatClampNeg x4)) + 0)) = x2 then (gd x4 8 (if ((v0 (90 + 9 * ((Int32.toNatClampNeg x4)) + 4)) / 10) = x1 then (f3_carsInSection_52 v0 (f3_carsInSection_5 v0 n) x1 x2 (x3 ||| (1 <<< (x4 &&& 31))) x4) else (f3_carsInSection_52 v0 (f3_carsInSection_5 v0 n) x1 x2 x3 x4))) else (f3_carsInSection_52 v0 (f3_carsInSection_5 v0 n) x1 x2 x3 x4)))) = some t := hf
    refine lv_iload hx hb dX3_carsInSection_5 (lv_at hl 4 rfl) ?_
    refine lv_aload_n hx hb dX3_carsInSection_7 rfl (lv_at hl 0 rfl) ?_
    refine cr_gSt X hk hM hP (i := 6) (v := .int (v0 162)) (by decide) gfX3_44 rfl dX3_carsInSection_8 ?_
    refine lv_icmp_ge (tgt := 58) hx hb dX3_carsInSection_11 (by decide) (fun c1 => ?_) (fun c1 => ?_)
    · have hf := it_t c1 hf
      refine lv_iload_n hx hb dX3_carsInSection_58 rfl (lv_at hl 3 rfl) ?_
      obtain rfl := so_i hf
      exact rd_i hx hb hr hlk dX3_carsInSection_59
    · have hf := it_f c1 hf
      refine lv_aload_n hx hb dX3_carsInSection_14 rfl (lv_at hl 0 rfl) ?_
      refine cr_gSt X hk hM hP (i := 4) (v := .ref (ad (15 * k + 5))) (by decide) gfX3_26 rfl dX3_carsInSection_15 ?_
      refine lv_iload hx hb dX3_carsInSection_18 (lv_at hl 4 rfl) ?_
      obtain ⟨hi2, hf⟩ := gd_o hf
      refine cr_cars X hk hP hi2 dX3_carsInSection_20 ?_
      refine cr_gCar X hk hM (j := (Int32.toNatClampNeg x4)) (vin_lt hi2) hP (i := 0) (v := .int (v0 (90 + 9 * ((Int32.toNatClampNeg x4)) + 0))) (by decide) gfX3_67 rfl dX3_carsInSection_21 ?_
      refine lv_iload_n hx hb dX3_carsInSection_24 rfl (lv_at hl 2 rfl) ?_
      refine lv_icmp_ne (tgt := 52) hx hb dX3_carsInSection_25 (by decide) (fun c3 => ?_) (fun c3 => ?_)
      · have hf := it_f c3 hf
        exact w3_carsInSection_52 X hk hM hP (K5 := (f3_carsInSection_5 v0 n)) ih  (lv_sub hl [0, 1, 2, 3, 4] rfl) hf
      · have hf := it_t c3 hf
        refine lv_aload_n hx hb dX3_carsInSection_28 rfl (lv_at hl 0 rfl) ?_
        refine cr_gSt X hk hM hP (i := 4) (v := .ref (ad (15 * k + 5))) (by decide) gfX3_26 rfl dX3_carsInSection_29 ?_
        refine lv_iload hx hb dX3_carsInSection_32 (lv_at hl 4 rfl) ?_
        obtain ⟨hi4, hf⟩ := gd_o hf
        refine cr_cars X hk hP hi4 dX3_carsInSection_34 ?_
        refine cr_gCar X hk hM (j := (Int32.toNatClampNeg x4)) (vin_lt hi4) hP (i := 4) (v := .int (v0 (90 + 9 * ((Int32.toNatClampNeg x4)) + 4))) (by decide) gfX3_120 rfl dX3_carsInSection_35 ?_
        refine lv_bipush (v := 10) hx hb dX3_carsInSection_38 (by decide) ?_
        refine lv_idiv hx hb dX3_carsInSection_40 (by decide) ?_
        refine lv_iload_n hx hb dX3_carsInSection_41 rfl (lv_at hl 1 rfl) ?_
        refine lv_icmp_ne (tgt := 52) hx hb dX3_carsInSection_42 (by decide) (fun c5 => ?_) (fun c5 => ?_)
        · have hf := it_f c5 hf
          exact w3_carsInSection_52 X hk hM hP (K5 := (f3_carsInSection_5 v0 n)) ih  (lv_sub hl [0, 1, 2, 3, 4] rfl) hf
        · have hf := it_t c5 hf
          refine lv_iload_n hx hb dX3_carsInSection_45 rfl (lv_at hl 3 rfl) ?_
          refine lv_iconst (v := 1) hx hb dX3_carsInSection_46 (by decide) ?_
          refine lv_iload hx hb dX3_carsInSection_47 (lv_at hl 4 rfl) ?_
          refine lv_ishl hx hb dX3_carsInSection_49 ?_
          refine lv_ior hx hb dX3_carsInSection_50 ?_
          refine lv_istore_n (lv' := [(3, .int (x3 ||| (1 <<< (x4 &&& 31)))), (0, .ref (ad (15 * k))), (1, .int x1), (2, .int x2), (4, .int x4)]) hx hb dX3_carsInSection_51 rfl hl (by decide) rfl (fun ls hl => ?_)
          exact w3_carsInSection_52 X hk hM hP (K5 := (f3_carsInSection_5 v0 n)) ih  (lv_sub hl [1, 2, 3, 0, 4] rfl) hf
def f3_carsInSection_0 (v0 : Nat → Int32) (x1 : Int32) (x2 : Int32) : Option (Int32) := f3_carsInSection_5 v0 fu x1 x2 0 0
set_option maxRecDepth 100000 in
set_option maxHeartbeats 4000000 in
theorem w3_carsInSection_0 {p : Program} {l : Launch} {e : Env} {s : State} {m : MethodId} {args : Array Value} {below : List Frame} {meth : Method} {c : Code} {D : va_G} {Y : cYt} {ad : Nat → Nat} {μ : Nat → Nat → Int32} {k : Nat} {v0 : Nat → Int32} (X : cX D Y p s m args meth c cX3_carsInSection 5 RX3 (some .int)) (hk : k < 10) (hM : μ k = v0) (hP : va_P D vwCl (cwW Y ad μ) s.heap) {x1 : Int32} {x2 : Int32} {t : Int32}  {ls : Array Slot} (hl : lv_has ls 5 [(0, .ref (ad (15 * k))), (1, .int x1), (2, .int x2)]) (hf : f3_carsInSection_0 v0 x1 x2 = some t) : W p l e rm3_carsInSection s m args below meth c s.heap [] 0 0 (MQ below (QcRead t) args s 0 0 (fun _ => False)) (F0 m 0 ls []) := by
  obtain ⟨⟨hx, hb, hml, hown, hts⟩, hr, hlk, hK⟩ := id X
  replace hf : (f3_carsInSection_5 v0 fu x1 x2 0 0) = some t := hf
  refine lv_iconst (v := 0) hx hb dX3_carsInSection_0 (by decide) ?_
  refine lv_istore_n (lv' := [(3, .int 0), (0, .ref (ad (15 * k))), (1, .int x1), (2, .int x2)]) hx hb dX3_carsInSection_1 rfl hl (by decide) rfl (fun ls hl => ?_)
  refine lv_iconst (v := 0) hx hb dX3_carsInSection_2 (by decide) ?_
  refine lv_istore (lv' := [(4, .int 0), (3, .int 0), (0, .ref (ad (15 * k))), (1, .int x1), (2, .int x2)]) hx hb dX3_carsInSection_3 hl (by decide) rfl (fun ls hl => ?_)
  exact w3_carsInSection_5 X hk hM hP _ _ _ _ _ _ (lv_sub hl [2, 3, 4, 1, 0] rfl) hf
set_option maxRecDepth 100000 in
set_option maxHeartbeats 4000000 in
theorem c3_carsInSection (l : Launch) {D : va_G} {Y : cYt} {ad : Nat → Nat} {μ : Nat → Nat → Int32} {k : Nat} (hk : k < 10) (x1 : Int32) (x2 : Int32) {t : Int32} (hf : f3_carsInSection_0 (μ k) x1 x2 = some t) : Met l yX3_carsInSection uX3_carsInSection rm3_carsInSection (va_Pc [.ref (ad (15 * k)), .int x1, .int x2] (cB D Y ad μ)) (QcRead t) 0 0 (fun _ => False) := by
  refine Met.ofW (cc := cX3_carsInSection) (maxL := 5) (ret := (some .int)) (by decide) rfl ?_
  intro p e s m args below meth c s₁ B hml hv
  obtain ⟨rfl, hP, hK⟩ := hv
  have X : cX D Y p s m ([.ref (ad (15 * k)), .int x1, .int x2] : List Value).toArray meth c cX3_carsInSection 5 RX3 (some .int) := ⟨⟨B.exec, B.bytes, hml, findClass_of_methodNamed B.named, fun w h => atoms_spec (ws := uX3_carsInSection) B.pre w (List.mem_cons_of_mem _ h)⟩, B.returns, B.notSynchronized, hK⟩
  have hl := lv_entry ([.ref (ad (15 * k)), .int x1, .int x2]) (n := 5) (Nat.le_of_ble_eq_true rfl)
  rw [lg_entry_eq]
  generalize (lg_sl ([.ref (ad (15 * k)), .int x1, .int x2]) ++ List.replicate (5 - (lg_sl ([.ref (ad (15 * k)), .int x1, .int x2])).length) Slot.unset).toArray = ls at hl ⊢
  have hl : lv_has ls 5 [(0, .ref (ad (15 * k))), (1, .int x1), (2, .int x2)] := hl
  exact w3_carsInSection_0 X hk rfl hP (lv_sub hl [0, 1, 2] rfl) hf
set_option maxRecDepth 100000 in
set_option maxHeartbeats 4000000 in
theorem k3_carsInSection {p : Program} {l : Launch} {e : Env} {R : Room} {s : State} {m : MethodId} {args : Array Value} {below : List Frame} {meth : Method} {c : Code} {cc : ByteArray} {nL : Nat} {own : String} {ret : Option FieldType} {D : va_G} {Y : cYt} {ad : Nat → Nat} {μ : Nat → Nat → Int32} {H : Heap} {locs : List Loc} {cells slots : Nat} {Q : State → Prop} {pc : Nat} {ls : Array Slot} {rest : List Value} (X : cX D Y p s m args meth c cc nL own ret) {k : Nat} {v0 : Nat → Int32} (hk : k < 10) (hM : μ k = v0) (hP : va_P D vwCl (cwW Y ad μ) H) (hls : ls.size = nL) {index : Nat} (hG : GoodIn gw (wsV own index RX3 yX3_carsInSection uX3_carsInSection)) (hR : rm3_carsInSection.frames + 1 ≤ R.frames ∧ 8 + (5 + 11) + rm3_carsInSection.locals ≤ R.locals) {x1 : Int32} {x2 : Int32} {t : Int32} (hf : f3_carsInSection_0 v0 x1 x2 = some t) (hrest : (rest.map fun v => v.category).sum ≤ 8) (hdg : decode cc pc = .ok (.invokevirtual index, 3)) (hc : cells ≤ R.cells ∧ slots ≤ R.slots) (kk : W p l e R s m args below meth c H locs cells slots Q (F0 m (pc + 3) ls (.int t :: rest))) : W p l e R s m args below meth c H locs cells slots Q (F0 m pc ls (.int x2 :: .int x1 :: .ref (ad (15 * k)) :: rest)) := by
  subst hM
  exact W.callR (W.runV (As := [.int x1, .int x2]) X.1 (c3_carsInSection l hk x1 x2 hf) (cwV 2 X.1.2.2.2.2 hG rfl rfl rfl (by decide +kernel) hR) ⟨cB_bl, va_recv X.2.2.2 hP (ci := 3) (q0 := 15 * k) rfl (cw_ate (by omega) ((cw_st (r := 0) hk (by omega)).trans rfl)), fun U hU hW => ⟨rfl, by rw [hU]; exact hP, va_K.moved hW.alike X.2.2.2⟩⟩ rfl rfl hls rfl (lv_room hrest) hdg hc) kk
/-! OreRailway$State.releaseRefusal(I)I -/
def rm3_releaseRefusal : Room := { frames := 1, cells := 0, slots := 0, locals := 24 }
def f3_releaseRefusal_28 (v0 : Nat → Int32) (y0 : Int32) : Option (Int32) := some y0
set_option maxRecDepth 100000 in
set_option maxHeartbeats 4000000 in
theorem w3_releaseRefusal_28 {p : Program} {l : Launch} {e : Env} {s : State} {m : MethodId} {args : Array Value} {below : List Frame} {meth : Method} {c : Code} {D : va_G} {Y : cYt} {ad : Nat → Nat} {μ : Nat → Nat → Int32} {k : Nat} {v0 : Nat → Int32} (X : cX D Y p s m args meth c cX3_releaseRefusal 2 RX3 (some .int)) (hk : k < 10) (hM : μ k = v0) (hP : va_P D vwCl (cwW Y ad μ) s.heap) {y0 : Int32} {t : Int32}  {ls : Array Slot} (hl : lv_has ls 2 []) (hf : f3_releaseRefusal_28 v0 y0 = some t) : W p l e rm3_releaseRefusal s m args below meth c s.heap [] 0 0 (MQ below (QcRead t) args s 0 0 (fun _ => False)) (F0 m 28 ls [.int y0]) := by
  obtain ⟨⟨hx, hb, hml, hown, hts⟩, hr, hlk, hK⟩ := id X
  replace hf : (some y0) = some t := hf
  obtain rfl := so_i hf
  exact rd_i hx hb hr hlk dX3_releaseRefusal_28
def f3_releaseRefusal_0 (v0 : Nat → Int32) (x1 : Int32) : Option (Int32) := gd x1 8 (if (v0 (90 + 9 * ((Int32.toNatClampNeg x1)) + 0)) = 0 then (Option.bind (f3_carsInSection_0 v0 0 1) (fun t3 => if t3 = 0 then (f3_releaseRefusal_28 v0 0) else (f3_releaseRefusal_28 v0 2))) else (some 1))
set_option maxRecDepth 100000 in
set_option maxHeartbeats 4000000 in
theorem w3_releaseRefusal_0 {p : Program} {l : Launch} {e : Env} {s : State} {m : MethodId} {args : Array Value} {below : List Frame} {meth : Method} {c : Code} {D : va_G} {Y : cYt} {ad : Nat → Nat} {μ : Nat → Nat → Int32} {k : Nat} {v0 : Nat → Int32} (X : cX D Y p s m args meth c cX3_releaseRefusal 2 RX3 (some .int)) (hk : k < 10) (hM : μ k = v0) (hP : va_P D vwCl (cwW Y ad μ) s.heap) {x1 : Int32} {t : Int32}  {ls : Array Slot} (hl : lv_has ls 2 [(0, .ref (ad (15 * k))), (1, .int x1)]) (hf : f3_releaseRefusal_0 v0 x1 = some t) : W p l e rm3_releaseRefusal s m args below meth c s.heap [] 0 0 (MQ below (QcRead t) args s 0 0 (fun _ => False)) (F0 m 0 ls []) := by
  obtain ⟨⟨hx, hb, hml, hown, hts⟩, hr, hlk, hK⟩ := id X
  replace hf : (gd x1 8 (if (v0 (90 + 9 * ((Int32.toNatClampNeg x1)) + 0)) = 0 then (Option.bind (f3_carsInSection_0 v0 0 1) (fun t3 => if t3 = 0 then (f3_releaseRefusal_28 v0 0) else (f3_releaseRefusal_28 v0 2))) else (some 1))) = some t := hf
  refine lv_aload_n hx hb dX3_releaseRefusal_0 rfl (lv_at hl 0 rfl) ?_
  refine cr_gSt X hk hM hP (i := 4) (v := .ref (ad (15 * k + 5))) (by decide) gfX3_26 rfl dX3_releaseRefusal_1 ?_
  refine lv_iload_n hx hb dX3_releaseRefusal_4 rfl (lv_at hl 1 rfl) ?_
  obtain ⟨hi1, hf⟩ := gd_o hf
  refine cr_cars X hk hP hi1 dX3_releaseRefusal_5 ?_
  refine cr_gCar X hk hM (j := (Int32.toNatClampNeg x1)) (vin_lt hi1) hP (i := 0) (v := .int (v0 (90 + 9 * ((Int32.toNatClampNeg x1)) + 0))) (by decide) gfX3_67 rfl dX3_releaseRefusal_6 ?_
  refine lv_if_eq (tgt := 14) hx hb dX3_releaseRefusal_9 (by decide) (fun c2 => ?_) (fun c2 => ?_)
  · have hf := it_t c2 hf
    refine lv_aload_n hx hb dX3_releaseRefusal_14 rfl (lv_at hl 0 rfl) ?_
    refine lv_iconst (v := 0) hx hb dX3_releaseRefusal_15 (by decide) ?_
    refine lv_iconst (v := 1) hx hb dX3_releaseRefusal_16 (by decide) ?_
    obtain ⟨t3, ht3, hf⟩ := bd_o hf
    refine k3_carsInSection X hk hM hP hl.1 qX3_76 ⟨Nat.le_of_ble_eq_true rfl, Nat.le_of_ble_eq_true rfl⟩ ht3 (Nat.le_of_ble_eq_true rfl) dX3_releaseRefusal_17 ⟨Nat.zero_le _, Nat.zero_le _⟩ ?_
    refine lv_if_eq (tgt := 27) hx hb dX3_releaseRefusal_20 (by decide) (fun c4 => ?_) (fun c4 => ?_)
    · have hf := it_t c4 hf
      refine lv_iconst (v := 0) hx hb dX3_releaseRefusal_27 (by decide) ?_
      exact w3_releaseRefusal_28 X hk hM hP  (lv_sub hl [] rfl) hf
    · have hf := it_f c4 hf
      refine lv_iconst (v := 2) hx hb dX3_releaseRefusal_23 (by decide) ?_
      refine lv_goto (tgt := 28) hx hb dX3_releaseRefusal_24 (by decide) ?_
      exact w3_releaseRefusal_28 X hk hM hP  (lv_sub hl [] rfl) hf
  · have hf := it_f c2 hf
    refine lv_iconst (v := 1) hx hb dX3_releaseRefusal_12 (by decide) ?_
    obtain rfl := so_i hf
    exact rd_i hx hb hr hlk dX3_releaseRefusal_13
set_option maxRecDepth 100000 in
set_option maxHeartbeats 4000000 in
theorem c3_releaseRefusal (l : Launch) {D : va_G} {Y : cYt} {ad : Nat → Nat} {μ : Nat → Nat → Int32} {k : Nat} (hk : k < 10) (x1 : Int32) {t : Int32} (hf : f3_releaseRefusal_0 (μ k) x1 = some t) : Met l yX3_releaseRefusal uX3_releaseRefusal rm3_releaseRefusal (va_Pc [.ref (ad (15 * k)), .int x1] (cB D Y ad μ)) (QcRead t) 0 0 (fun _ => False) := by
  refine Met.ofW (cc := cX3_releaseRefusal) (maxL := 2) (ret := (some .int)) (by decide) rfl ?_
  intro p e s m args below meth c s₁ B hml hv
  obtain ⟨rfl, hP, hK⟩ := hv
  have X : cX D Y p s m ([.ref (ad (15 * k)), .int x1] : List Value).toArray meth c cX3_releaseRefusal 2 RX3 (some .int) := ⟨⟨B.exec, B.bytes, hml, findClass_of_methodNamed B.named, fun w h => atoms_spec (ws := uX3_releaseRefusal) B.pre w (List.mem_cons_of_mem _ h)⟩, B.returns, B.notSynchronized, hK⟩
  have hl := lv_entry ([.ref (ad (15 * k)), .int x1]) (n := 2) (Nat.le_of_ble_eq_true rfl)
  rw [lg_entry_eq]
  generalize (lg_sl ([.ref (ad (15 * k)), .int x1]) ++ List.replicate (2 - (lg_sl ([.ref (ad (15 * k)), .int x1])).length) Slot.unset).toArray = ls at hl ⊢
  have hl : lv_has ls 2 [(0, .ref (ad (15 * k))), (1, .int x1)] := hl
  exact w3_releaseRefusal_0 X hk rfl hP (lv_sub hl [0, 1] rfl) hf
set_option maxRecDepth 100000 in
set_option maxHeartbeats 4000000 in
theorem k3_releaseRefusal {p : Program} {l : Launch} {e : Env} {R : Room} {s : State} {m : MethodId} {args : Array Value} {below : List Frame} {meth : Method} {c : Code} {cc : ByteArray} {nL : Nat} {own : String} {ret : Option FieldType} {D : va_G} {Y : cYt} {ad : Nat → Nat} {μ : Nat → Nat → Int32} {H : Heap} {locs : List Loc} {cells slots : Nat} {Q : State → Prop} {pc : Nat} {ls : Array Slot} {rest : List Value} (X : cX D Y p s m args meth c cc nL own ret) {k : Nat} {v0 : Nat → Int32} (hk : k < 10) (hM : μ k = v0) (hP : va_P D vwCl (cwW Y ad μ) H) (hls : ls.size = nL) {index : Nat} (hG : GoodIn gw (wsV own index RX3 yX3_releaseRefusal uX3_releaseRefusal)) (hR : rm3_releaseRefusal.frames + 1 ≤ R.frames ∧ 8 + (2 + 11) + rm3_releaseRefusal.locals ≤ R.locals) {x1 : Int32} {t : Int32} (hf : f3_releaseRefusal_0 v0 x1 = some t) (hrest : (rest.map fun v => v.category).sum ≤ 8) (hdg : decode cc pc = .ok (.invokevirtual index, 3)) (hc : cells ≤ R.cells ∧ slots ≤ R.slots) (kk : W p l e R s m args below meth c H locs cells slots Q (F0 m (pc + 3) ls (.int t :: rest))) : W p l e R s m args below meth c H locs cells slots Q (F0 m pc ls (.int x1 :: .ref (ad (15 * k)) :: rest)) := by
  subst hM
  exact W.callR (W.runV (As := [.int x1]) X.1 (c3_releaseRefusal l hk x1 hf) (cwV 1 X.1.2.2.2.2 hG rfl rfl rfl (by decide +kernel) hR) ⟨cB_bl, va_recv X.2.2.2 hP (ci := 3) (q0 := 15 * k) rfl (cw_ate (by omega) ((cw_st (r := 0) hk (by omega)).trans rfl)), fun U hU hW => ⟨rfl, by rw [hU]; exact hP, va_K.moved hW.alike X.2.2.2⟩⟩ rfl rfl hls rfl (lv_room hrest) hdg hc) kk
/-! OreRailway$State.letRoll(II)I -/
def rm3_letRoll : Room := { frames := 2, cells := 0, slots := 0, locals := 45 }
def f3_letRoll_0 (x1 : Int32) (x2 : Int32) (v0 : Nat → Int32) : Option (Int32 × (Nat → Int32)) := Option.bind (f3_releaseRefusal_0 v0 x1) (fun t1 => if t1 = 0 then (gd x1 8 (gd x1 8 (some (0, upd (upd v0 (90 + 9 * ((Int32.toNatClampNeg x1)) + 0) 1) (90 + 9 * ((Int32.toNatClampNeg x1)) + 2) x2)))) else (some (t1, upd v0 167 ((v0 167) + 1))))
set_option maxRecDepth 100000 in
set_option maxHeartbeats 4000000 in
theorem w3_letRoll_0 {p : Program} {l : Launch} {e : Env} {s : State} {m : MethodId} {args : Array Value} {below : List Frame} {meth : Method} {c : Code} {D : va_G} {Y : cYt} {ad : Nat → Nat} {μ : Nat → Nat → Int32} {k : Nat} {v0 : Nat → Int32} (X : cX D Y p s m args meth c cX3_letRoll 4 RX3 (some .int)) (hI : cInj ad) (hk : k < 10)  {x1 : Int32} {x2 : Int32} {t : Int32 × (Nat → Int32)}  {H : Heap} {locs : List Loc} (hH : cH D Y ad (s1 μ k v0) s H locs) {ls : Array Slot} (hl : lv_has ls 4 [(0, .ref (ad (15 * k))), (1, .int x1), (2, .int x2)]) (hf : f3_letRoll_0 x1 x2 v0 = some t) : W p l e rm3_letRoll s m args below meth c H locs 0 0 (MQ below (va_Qi (fun (r9 : Int32) (_ : Unit) => r9 = t.1) (fun _ t9 => cB D Y ad (s1 μ k t.2) t9) (cA ad s.heap.size)) args s 0 0 (cA ad s.heap.size)) (F0 m 0 ls []) := by
  obtain ⟨⟨hx, hb, hml, hown, hts⟩, hr, hlk, hK⟩ := id X
  replace hf : (Option.bind (f3_releaseRefusal_0 v0 x1) (fun t1 => if t1 = 0 then (gd x1 8 (gd x1 8 (some (0, upd (upd v0 (90 + 9 * ((Int32.toNatClampNeg x1)) + 0) 1) (90 + 9 * ((Int32.toNatClampNeg x1)) + 2) x2)))) else (some (t1, upd v0 167 ((v0 167) + 1))))) = some t := hf
  refine lv_aload_n hx hb dX3_letRoll_0 rfl (lv_at hl 0 rfl) ?_
  refine lv_iload_n hx hb dX3_letRoll_1 rfl (lv_at hl 1 rfl) ?_
  obtain ⟨t1, ht1, hf⟩ := bd_o hf
  refine k3_releaseRefusal X hk s1_k hH.1 hl.1 qX3_80 ⟨Nat.le_of_ble_eq_true rfl, Nat.le_of_ble_eq_true rfl⟩ ht1 (Nat.le_of_ble_eq_true rfl) dX3_letRoll_2 ⟨Nat.zero_le _, Nat.zero_le _⟩ ?_
  refine lv_istore_n (lv' := [(3, .int t1), (0, .ref (ad (15 * k))), (1, .int x1), (2, .int x2)]) hx hb dX3_letRoll_5 rfl hl (by decide) rfl (fun ls hl => ?_)
  refine lv_iload_n hx hb dX3_letRoll_6 rfl (lv_at hl 0 rfl) ?_
  refine lv_if_eq (tgt := 22) hx hb dX3_letRoll_7 (by decide) (fun c2 => ?_) (fun c2 => ?_)
  · have hf := it_t c2 hf
    refine lv_aload_n hx hb dX3_letRoll_22 rfl (lv_at hl 1 rfl) ?_
    refine cr_gSt X hk s1_k hH.1 (i := 4) (v := .ref (ad (15 * k + 5))) (by decide) gfX3_26 rfl dX3_letRoll_23 ?_
    refine lv_iload_n hx hb dX3_letRoll_26 rfl (lv_at hl 2 rfl) ?_
    obtain ⟨hi3, hf⟩ := gd_o hf
    refine cr_cars X hk hH.1 hi3 dX3_letRoll_27 ?_
    refine lv_iconst (v := 1) hx hb dX3_letRoll_28 (by decide) ?_
    refine cv_pCar X hI hk (vin_lt hi3) hH 0 (by decide) gfX3_67 dX3_letRoll_29 (fun H locs hH => ?_)
    refine lv_aload_n hx hb dX3_letRoll_32 rfl (lv_at hl 1 rfl) ?_
    refine cr_gSt X hk s1_k hH.1 (i := 4) (v := .ref (ad (15 * k + 5))) (by decide) gfX3_26 rfl dX3_letRoll_33 ?_
    refine lv_iload_n hx hb dX3_letRoll_36 rfl (lv_at hl 2 rfl) ?_
    obtain ⟨hi4, hf⟩ := gd_o hf
    refine cr_cars X hk hH.1 hi4 dX3_letRoll_37 ?_
    refine lv_iload_n hx hb dX3_letRoll_38 rfl (lv_at hl 3 rfl) ?_
    refine cv_pCar X hI hk (vin_lt hi4) hH 2 (by decide) gfX3_84 dX3_letRoll_39 (fun H locs hH => ?_)
    refine lv_iconst (v := 0) hx hb dX3_letRoll_42 (by decide) ?_
    obtain rfl := so_i hf
    exact cr_iw X hH rfl dX3_letRoll_43
  · have hf := it_f c2 hf
    refine lv_aload_n hx hb dX3_letRoll_10 rfl (lv_at hl 1 rfl) ?_
    refine lv_dup hx hb dX3_letRoll_11 rfl ?_
    refine cr_gSt X hk s1_k hH.1 (i := 11) (v := .int (v0 167)) (by decide) gfX3_60 rfl dX3_letRoll_12 ?_
    refine lv_iconst (v := 1) hx hb dX3_letRoll_15 (by decide) ?_
    refine lv_iadd hx hb dX3_letRoll_16 ?_
    refine cv_pSt X hI hk hH 11 (by decide) gfX3_60 dX3_letRoll_17 (fun H locs hH => ?_)
    refine lv_iload_n hx hb dX3_letRoll_20 rfl (lv_at hl 0 rfl) ?_
    obtain rfl := so_i hf
    exact cr_iw X hH rfl dX3_letRoll_21
set_option maxRecDepth 100000 in
set_option maxHeartbeats 4000000 in
theorem c3_letRoll (l : Launch) {D : va_G} {Y : cYt} {ad : Nat → Nat} {μ : Nat → Nat → Int32} {k : Nat} (hk : k < 10) (hI : cInj ad) (sz : Nat) (x1 : Int32) (x2 : Int32) {t : Int32 × (Nat → Int32)} (hf : f3_letRoll_0 x1 x2 (μ k) = some t) : Met l yX3_letRoll uX3_letRoll rm3_letRoll (va_Pc [.ref (ad (15 * k)), .int x1, .int x2] (fun U => U.heap.size = sz ∧ cB D Y ad μ U)) (va_Qi (fun (r9 : Int32) (_ : Unit) => r9 = t.1) (fun _ t9 => cB D Y ad (s1 μ k t.2) t9) (cA ad sz)) 0 0 (cA ad sz) := by
  refine Met.ofW (cc := cX3_letRoll) (maxL := 4) (ret := (some .int)) (by decide) rfl ?_
  intro p e s m args below meth c s₁ B hml hv
  obtain ⟨rfl, hsz, hP, hK⟩ := hv
  subst hsz
  have X : cX D Y p s m ([.ref (ad (15 * k)), .int x1, .int x2] : List Value).toArray meth c cX3_letRoll 4 RX3 (some .int) := ⟨⟨B.exec, B.bytes, hml, findClass_of_methodNamed B.named, fun w h => atoms_spec (ws := uX3_letRoll) B.pre w (List.mem_cons_of_mem _ h)⟩, B.returns, B.notSynchronized, hK⟩
  have hl := lv_entry ([.ref (ad (15 * k)), .int x1, .int x2]) (n := 4) (Nat.le_of_ble_eq_true rfl)
  rw [lg_entry_eq]
  generalize (lg_sl ([.ref (ad (15 * k)), .int x1, .int x2]) ++ List.replicate (4 - (lg_sl ([.ref (ad (15 * k)), .int x1, .int x2])).length) Slot.unset).toArray = ls at hl ⊢
  have hl : lv_has ls 4 [(0, .ref (ad (15 * k))), (1, .int x1), (2, .int x2)] := hl
  exact w3_letRoll_0 X hI hk (cH_in k ⟨hP, va_S.rf⟩) (lv_sub hl [0, 1, 2] rfl) hf
set_option maxRecDepth 100000 in
set_option maxHeartbeats 4000000 in
theorem km3_letRoll {p : Program} {l : Launch} {e : Env} {R : Room} {s : State} {m : MethodId} {args : Array Value} {below : List Frame} {meth : Method} {c : Code} {cc : ByteArray} {nL : Nat} {own : String} {ret : Option FieldType} {D : va_G} {Y : cYt} {ad : Nat → Nat} {μ : Nat → Nat → Int32} {H : Heap} {locs : List Loc} {cells slots : Nat} {Q : State → Prop} {pc : Nat} {ls : Array Slot} {rest : List Value} (X : cX D Y p s m args meth c cc nL own ret) {k : Nat} (hI : cInj ad) (hk : k < 10) (hH : cH D Y ad μ s H locs) (hls : ls.size = nL) {index : Nat} (hG : GoodIn gw (wsV own index RX3 yX3_letRoll uX3_letRoll)) (hR : rm3_letRoll.frames + 1 ≤ R.frames ∧ 8 + (4 + 11) + rm3_letRoll.locals ≤ R.locals) {x1 : Int32} {x2 : Int32} {t : Int32 × (Nat → Int32)} (hf : f3_letRoll_0 x1 x2 (μ k) = some t) (hrest : (rest.map fun v => v.category).sum ≤ 8) (hdg : decode cc pc = .ok (.invokevirtual index, 3)) (hc : cells ≤ R.cells ∧ slots ≤ R.slots) (kk : ∀ (H1 : Heap) (locs1 : List Loc), cH D Y ad (s1 μ k t.2) s H1 locs1 → W p l e R s m args below meth c H1 locs1 cells slots Q (F0 m (pc + 3) ls (.int t.1 :: rest))) : W p l e R s m args below meth c H locs cells slots Q (F0 m pc ls (.int x2 :: .int x1 :: .ref (ad (15 * k)) :: rest)) := by
  have hA : ∀ q, cA ad H.size q → cA ad s.heap.size q := fun q h => h.elim Or.inl (fun h => Or.inr (Nat.le_trans hH.2.1 h))
  refine va_calli (va_runV (As := [.int x1, .int x2]) (rest := rest) X.1 (c3_letRoll l hk hI H.size x1 x2 hf) (cwV 2 X.1.2.2.2.2 hG rfl rfl rfl (by decide +kernel) hR) ⟨cBs_bl, va_recv X.2.2.2 hH.1 (ci := 3) (q0 := 15 * k) rfl (cw_ate (by omega) ((cw_st (r := 0) hk (by omega)).trans rfl)), fun U hU hW => ⟨rfl, by rw [hU], by rw [hU]; exact hH.1, va_K.moved hW.alike X.2.2.2⟩⟩ rfl rfl hls rfl (lv_room hrest) hdg hc) hH.2 (fun q _ h => hA q h) hA (fun r9 u t9 H1 locs1 ht hvm hw hB hz1 hk1 hS => ?_)
  subst hw
  exact kk H1 locs1 ⟨by rw [← ht]; exact hB.1, hS⟩
set_option maxRecDepth 100000 in
set_option maxHeartbeats 4000000 in
theorem k3_letRoll {p : Program} {l : Launch} {e : Env} {R : Room} {s : State} {m : MethodId} {args : Array Value} {below : List Frame} {meth : Method} {c : Code} {cc : ByteArray} {nL : Nat} {own : String} {ret : Option FieldType} {D : va_G} {Y : cYt} {ad : Nat → Nat} {μ : Nat → Nat → Int32} {H : Heap} {locs : List Loc} {cells slots : Nat} {Q : State → Prop} {pc : Nat} {ls : Array Slot} {rest : List Value} (X : cX D Y p s m args meth c cc nL own ret) {k : Nat} {v0 : Nat → Int32} (hI : cInj ad) (hk : k < 10) (hH : cH D Y ad (s1 μ k v0) s H locs) (hls : ls.size = nL) {index : Nat} (hG : GoodIn gw (wsV own index RX3 yX3_letRoll uX3_letRoll)) (hR : rm3_letRoll.frames + 1 ≤ R.frames ∧ 8 + (4 + 11) + rm3_letRoll.locals ≤ R.locals) {x1 : Int32} {x2 : Int32} {t : Int32 × (Nat → Int32)} (hf : f3_letRoll_0 x1 x2 v0 = some t) (hrest : (rest.map fun v => v.category).sum ≤ 8) (hdg : decode cc pc = .ok (.invokevirtual index, 3)) (hc : cells ≤ R.cells ∧ slots ≤ R.slots) (kk : ∀ (H1 : Heap) (locs1 : List Loc), cH D Y ad (s1 μ k t.2) s H1 locs1 → W p l e R s m args below meth c H1 locs1 cells slots Q (F0 m (pc + 3) ls (.int t.1 :: rest))) : W p l e R s m args below meth c H locs cells slots Q (F0 m pc ls (.int x2 :: .int x1 :: .ref (ad (15 * k)) :: rest)) := by
  have hf2 : f3_letRoll_0 x1 x2 (s1 μ k v0 k) = some t := by rw [s1_k]; exact hf
  exact km3_letRoll (μ := s1 μ k v0) X hI hk hH hls hG hR hf2 hrest hdg hc (fun H1 locs1 h => kk H1 locs1 (by rw [s1_s1] at h; exact h))
/-! OreRailway$State.changeBrake(II)I -/
def rm3_changeBrake : Room := { frames := 0, cells := 0, slots := 0, locals := 0 }
def f3_changeBrake_0 (x1 : Int32) (x2 : Int32) (v0 : Nat → Int32) : Option (Int32 × (Nat → Int32)) := gd x1 8 (gd x1 8 (some (v0 (90 + 9 * ((Int32.toNatClampNeg x1)) + 2), upd v0 (90 + 9 * ((Int32.toNatClampNeg x1)) + 2) x2)))
set_option maxRecDepth 100000 in
set_option maxHeartbeats 4000000 in
theorem w3_changeBrake_0 {p : Program} {l : Launch} {e : Env} {s : State} {m : MethodId} {args : Array Value} {below : List Frame} {meth : Method} {c : Code} {D : va_G} {Y : cYt} {ad : Nat → Nat} {μ : Nat → Nat → Int32} {k : Nat} {v0 : Nat → Int32} (X : cX D Y p s m args meth c cX3_changeBrake 4 RX3 (some .int)) (hI : cInj ad) (hk : k < 10)  {x1 : Int32} {x2 : Int32} {t : Int32 × (Nat → Int32)}  {H : Heap} {locs : List Loc} (hH : cH D Y ad (s1 μ k v0) s H locs) {ls : Array Slot} (hl : lv_has ls 4 [(0, .ref (ad (15 * k))), (1, .int x1), (2, .int x2)]) (hf : f3_changeBrake_0 x1 x2 v0 = some t) : W p l e rm3_changeBrake s m args below meth c H locs 0 0 (MQ below (va_Qi (fun (r9 : Int32) (_ : Unit) => r9 = t.1) (fun _ t9 => cB D Y ad (s1 μ k t.2) t9) (cA ad s.heap.size)) args s 0 0 (cA ad s.heap.size)) (F0 m 0 ls []) := by
  obtain ⟨⟨hx, hb, hml, hown, hts⟩, hr, hlk, hK⟩ := id X
  replace hf : (gd x1 8 (gd x1 8 (some (v0 (90 + 9 * ((Int32.toNatClampNeg x1)) + 2), upd v0 (90 + 9 * ((Int32.toNatClampNeg x1)) + 2) x2)))) = some t := hf
  refine lv_aload_n hx hb dX3_changeBrake_0 rfl (lv_at hl 0 rfl) ?_
  refine cr_gSt X hk s1_k hH.1 (i := 4) (v := .ref (ad (15 * k + 5))) (by decide) gfX3_26 rfl dX3_changeBrake_1 ?_
  refine lv_iload_n hx hb dX3_changeBrake_4 rfl (lv_at hl 1 rfl) ?_
  obtain ⟨hi1, hf⟩ := gd_o hf
  refine cr_cars X hk hH.1 hi1 dX3_changeBrake_5 ?_
  refine cr_gCar X hk s1_k (j := (Int32.toNatClampNeg x1)) (vin_lt hi1) hH.1 (i := 2) (v := .int (v0 (90 + 9 * ((Int32.toNatClampNeg x1)) + 2))) (by decide) gfX3_84 rfl dX3_changeBrake_6 ?_
  refine lv_istore_n (lv' := [(3, .int (v0 (90 + 9 * ((Int32.toNatClampNeg x1)) + 2))), (0, .ref (ad (15 * k))), (1, .int x1), (2, .int x2)]) hx hb dX3_changeBrake_9 rfl hl (by decide) rfl (fun ls hl => ?_)
  refine lv_aload_n hx hb dX3_changeBrake_10 rfl (lv_at hl 1 rfl) ?_
  refine cr_gSt X hk s1_k hH.1 (i := 4) (v := .ref (ad (15 * k + 5))) (by decide) gfX3_26 rfl dX3_changeBrake_11 ?_
  refine lv_iload_n hx hb dX3_changeBrake_14 rfl (lv_at hl 2 rfl) ?_
  obtain ⟨hi2, hf⟩ := gd_o hf
  refine cr_cars X hk hH.1 hi2 dX3_changeBrake_15 ?_
  refine lv_iload_n hx hb dX3_changeBrake_16 rfl (lv_at hl 3 rfl) ?_
  refine cv_pCar X hI hk (vin_lt hi2) hH 2 (by decide) gfX3_84 dX3_changeBrake_17 (fun H locs hH => ?_)
  refine lv_iload_n hx hb dX3_changeBrake_20 rfl (lv_at hl 0 rfl) ?_
  obtain rfl := so_i hf
  exact cr_iw X hH rfl dX3_changeBrake_21
set_option maxRecDepth 100000 in
set_option maxHeartbeats 4000000 in
theorem c3_changeBrake (l : Launch) {D : va_G} {Y : cYt} {ad : Nat → Nat} {μ : Nat → Nat → Int32} {k : Nat} (hk : k < 10) (hI : cInj ad) (sz : Nat) (x1 : Int32) (x2 : Int32) {t : Int32 × (Nat → Int32)} (hf : f3_changeBrake_0 x1 x2 (μ k) = some t) : Met l yX3_changeBrake uX3_changeBrake rm3_changeBrake (va_Pc [.ref (ad (15 * k)), .int x1, .int x2] (fun U => U.heap.size = sz ∧ cB D Y ad μ U)) (va_Qi (fun (r9 : Int32) (_ : Unit) => r9 = t.1) (fun _ t9 => cB D Y ad (s1 μ k t.2) t9) (cA ad sz)) 0 0 (cA ad sz) := by
  refine Met.ofW (cc := cX3_changeBrake) (maxL := 4) (ret := (some .int)) (by decide) rfl ?_
  intro p e s m args below meth c s₁ B hml hv
  obtain ⟨rfl, hsz, hP, hK⟩ := hv
  subst hsz
  have X : cX D Y p s m ([.ref (ad (15 * k)), .int x1, .int x2] : List Value).toArray meth c cX3_changeBrake 4 RX3 (some .int) := ⟨⟨B.exec, B.bytes, hml, findClass_of_methodNamed B.named, fun w h => atoms_spec (ws := uX3_changeBrake) B.pre w (List.mem_cons_of_mem _ h)⟩, B.returns, B.notSynchronized, hK⟩
  have hl := lv_entry ([.ref (ad (15 * k)), .int x1, .int x2]) (n := 4) (Nat.le_of_ble_eq_true rfl)
  rw [lg_entry_eq]
  generalize (lg_sl ([.ref (ad (15 * k)), .int x1, .int x2]) ++ List.replicate (4 - (lg_sl ([.ref (ad (15 * k)), .int x1, .int x2])).length) Slot.unset).toArray = ls at hl ⊢
  have hl : lv_has ls 4 [(0, .ref (ad (15 * k))), (1, .int x1), (2, .int x2)] := hl
  exact w3_changeBrake_0 X hI hk (cH_in k ⟨hP, va_S.rf⟩) (lv_sub hl [0, 1, 2] rfl) hf
set_option maxRecDepth 100000 in
set_option maxHeartbeats 4000000 in
theorem km3_changeBrake {p : Program} {l : Launch} {e : Env} {R : Room} {s : State} {m : MethodId} {args : Array Value} {below : List Frame} {meth : Method} {c : Code} {cc : ByteArray} {nL : Nat} {own : String} {ret : Option FieldType} {D : va_G} {Y : cYt} {ad : Nat → Nat} {μ : Nat → Nat → Int32} {H : Heap} {locs : List Loc} {cells slots : Nat} {Q : State → Prop} {pc : Nat} {ls : Array Slot} {rest : List Value} (X : cX D Y p s m args meth c cc nL own ret) {k : Nat} (hI : cInj ad) (hk : k < 10) (hH : cH D Y ad μ s H locs) (hls : ls.size = nL) {index : Nat} (hG : GoodIn gw (wsV own index RX3 yX3_changeBrake uX3_changeBrake)) (hR : rm3_changeBrake.frames + 1 ≤ R.frames ∧ 8 + (4 + 11) + rm3_changeBrake.locals ≤ R.locals) {x1 : Int32} {x2 : Int32} {t : Int32 × (Nat → Int32)} (hf : f3_changeBrake_0 x1 x2 (μ k) = some t) (hrest : (rest.map fun v => v.category).sum ≤ 8) (hdg : decode cc pc = .ok (.invokevirtual index, 3)) (hc : cells ≤ R.cells ∧ slots ≤ R.slots) (kk : ∀ (H1 : Heap) (locs1 : List Loc), cH D Y ad (s1 μ k t.2) s H1 locs1 → W p l e R s m args below meth c H1 locs1 cells slots Q (F0 m (pc + 3) ls (.int t.1 :: rest))) : W p l e R s m args below meth c H locs cells slots Q (F0 m pc ls (.int x2 :: .int x1 :: .ref (ad (15 * k)) :: rest)) := by
  have hA : ∀ q, cA ad H.size q → cA ad s.heap.size q := fun q h => h.elim Or.inl (fun h => Or.inr (Nat.le_trans hH.2.1 h))
  refine va_calli (va_runV (As := [.int x1, .int x2]) (rest := rest) X.1 (c3_changeBrake l hk hI H.size x1 x2 hf) (cwV 2 X.1.2.2.2.2 hG rfl rfl rfl (by decide +kernel) hR) ⟨cBs_bl, va_recv X.2.2.2 hH.1 (ci := 3) (q0 := 15 * k) rfl (cw_ate (by omega) ((cw_st (r := 0) hk (by omega)).trans rfl)), fun U hU hW => ⟨rfl, by rw [hU], by rw [hU]; exact hH.1, va_K.moved hW.alike X.2.2.2⟩⟩ rfl rfl hls rfl (lv_room hrest) hdg hc) hH.2 (fun q _ h => hA q h) hA (fun r9 u t9 H1 locs1 ht hvm hw hB hz1 hk1 hS => ?_)
  subst hw
  exact kk H1 locs1 ⟨by rw [← ht]; exact hB.1, hS⟩
set_option maxRecDepth 100000 in
set_option maxHeartbeats 4000000 in
theorem k3_changeBrake {p : Program} {l : Launch} {e : Env} {R : Room} {s : State} {m : MethodId} {args : Array Value} {below : List Frame} {meth : Method} {c : Code} {cc : ByteArray} {nL : Nat} {own : String} {ret : Option FieldType} {D : va_G} {Y : cYt} {ad : Nat → Nat} {μ : Nat → Nat → Int32} {H : Heap} {locs : List Loc} {cells slots : Nat} {Q : State → Prop} {pc : Nat} {ls : Array Slot} {rest : List Value} (X : cX D Y p s m args meth c cc nL own ret) {k : Nat} {v0 : Nat → Int32} (hI : cInj ad) (hk : k < 10) (hH : cH D Y ad (s1 μ k v0) s H locs) (hls : ls.size = nL) {index : Nat} (hG : GoodIn gw (wsV own index RX3 yX3_changeBrake uX3_changeBrake)) (hR : rm3_changeBrake.frames + 1 ≤ R.frames ∧ 8 + (4 + 11) + rm3_changeBrake.locals ≤ R.locals) {x1 : Int32} {x2 : Int32} {t : Int32 × (Nat → Int32)} (hf : f3_changeBrake_0 x1 x2 v0 = some t) (hrest : (rest.map fun v => v.category).sum ≤ 8) (hdg : decode cc pc = .ok (.invokevirtual index, 3)) (hc : cells ≤ R.cells ∧ slots ≤ R.slots) (kk : ∀ (H1 : Heap) (locs1 : List Loc), cH D Y ad (s1 μ k t.2) s H1 locs1 → W p l e R s m args below meth c H1 locs1 cells slots Q (F0 m (pc + 3) ls (.int t.1 :: rest))) : W p l e R s m args below meth c H locs cells slots Q (F0 m pc ls (.int x2 :: .int x1 :: .ref (ad (15 * k)) :: rest)) := by
  have hf2 : f3_changeBrake_0 x1 x2 (s1 μ k v0 k) = some t := by rw [s1_k]; exact hf
  exact km3_changeBrake (μ := s1 μ k v0) X hI hk hH hls hG hR hf2 hrest hdg hc (fun H1 locs1 h => kk H1 locs1 (by rw [s1_s1] at h; exact h))
/-! OreRailway$State.carsInState(I)I -/
def rm3_carsInState : Room := { frames := 0, cells := 0, slots := 0, locals := 0 }
def f3_carsInState_31 (v0 : Nat → Int32) (K4 : Int32 → Int32 → Int32 → Option (Int32)) (x1 : Int32) (x2 : Int32) (x3 : Int32) : Option (Int32) := K4 x1 x2 (x3 + 1)
set_option maxRecDepth 100000 in
set_option maxHeartbeats 4000000 in
theorem w3_carsInState_31 {p : Program} {l : Launch} {e : Env} {s : State} {m : MethodId} {args : Array Value} {below : List Frame} {meth : Method} {c : Code} {D : va_G} {Y : cYt} {ad : Nat → Nat} {μ : Nat → Nat → Int32} {k : Nat} {v0 : Nat → Int32} (X : cX D Y p s m args meth c cX3_carsInState 4 RX3 (some .int)) (hk : k < 10) (hM : μ k = v0) (hP : va_P D vwCl (cwW Y ad μ) s.heap) {x1 : Int32} {x2 : Int32} {x3 : Int32} {t : Int32} {K4 : Int32 → Int32 → Int32 → Option (Int32)} (hK4 : ∀ (x1 : Int32) (x2 : Int32) (x3 : Int32) (ls : Array Slot), lv_has ls 4 [(0, .ref (ad (15 * k))), (1, .int x1), (2, .int x2), (3, .int x3)] → K4 x1 x2 x3 = some t → W p l e rm3_carsInState s m args below meth c s.heap [] 0 0 (MQ below (QcRead t) args s 0 0 (fun _ => False)) (F0 m 4 ls []))  {ls : Array Slot} (hl : lv_has ls 4 [(0, .ref (ad (15 * k))), (1, .int x1), (2, .int x2), (3, .int x3)]) (hf : f3_carsInState_31 v0 K4 x1 x2 x3 = some t) : W p l e rm3_carsInState s m args below meth c s.heap [] 0 0 (MQ below (QcRead t) args s 0 0 (fun _ => False)) (F0 m 31 ls []) := by
  obtain ⟨⟨hx, hb, hml, hown, hts⟩, hr, hlk, hK⟩ := id X
  replace hf : (K4 x1 x2 (x3 + 1)) = some t := hf
  refine lv_iinc (v := x3 + 1) (lv' := [(3, .int (x3 + 1)), (0, .ref (ad (15 * k))), (1, .int x1), (2, .int x2)]) hx hb dX3_carsInState_31 hl (k := 3) rfl rfl (by decide) rfl (fun ls hl => ?_)
  refine lv_goto (tgt := 4) hx hb dX3_carsInState_34 (by decide) ?_
  exact hK4 _ _ _ _ (lv_sub hl [1, 2, 3, 0] rfl) hf
def f3_carsInState_4 (v0 : Nat → Int32) : Nat → Int32 → Int32 → Int32 → Option (Int32)
  | 0, _, _, _ => none
  | n + 1, x1, x2, x3 => if (v0 162) ≤ x3 then (some x2) else (gd x3 8 (if (v0 (90 + 9 * ((Int32.toNatClampNeg x3)) + 0)) = x1 then (f3_carsInState_31 v0 (f3_carsInState_4 v0 n) x1 (x2 ||| (1 <<< (x3 &&& 31))) x3) else (f3_carsInState_31 v0 (f3_carsInState_4 v0 n) x1 x2 x3)))
set_option maxRecDepth 100000 in
set_option maxHeartbeats 4000000 in
theorem w3_carsInState_4 {p : Program} {l : Launch} {e : Env} {s : State} {m : MethodId} {args : Array Value} {below : List Frame} {meth : Method} {c : Code} {D : va_G} {Y : cYt} {ad : Nat → Nat} {μ : Nat → Nat → Int32} {k : Nat} {v0 : Nat → Int32} (X : cX D Y p s m args meth c cX3_carsInState 4 RX3 (some .int)) (hk : k < 10) (hM : μ k = v0) (hP : va_P D vwCl (cwW Y ad μ) s.heap) {t : Int32} :
    ∀ (n : Nat) (x1 : Int32) (x2 : Int32) (x3 : Int32) (ls : Array Slot), lv_has ls 4 [(0, .ref (ad (15 * k))), (1, .int x1), (2, .int x2), (3, .int x3)] → f3_carsInState_4 v0 n x1 x2 x3 = some t → W p l e rm3_carsInState s m args below meth c s.heap [] 0 0 (MQ below (QcRead t) args s 0 0 (fun _ => False)) (F0 m 4 ls []) := by
  obtain ⟨⟨hx, hb, hml, hown, hts⟩, hr, hlk, hK⟩ := id X
  intro n
  induction n with
  | zero =>
    intro x1 x2 x3 ls hl hf
    cases hf
  | succ n ih =>
    intro x1 x2 x3 ls hl hf
    replace hf : (if (v0 162) ≤ x3 then (some x2) else (gd x3 8 (if (v0 (90 + 9 * ((Int32.toNatClampNeg x3)) + 0)) = x1 then (f3_carsInState_31 v0 (f3_carsInState_4 v0 n) x1 (x2 ||| (1 <<< (x3 &&& 31))) x3) else (f3_carsInState_31 v0 (f3_carsInState_4 v0 n) x1 x2 x3)))) = some t := hf
    refine lv_iload_n hx hb dX3_carsInState_4 rfl (lv_at hl 3 rfl) ?_
    refine lv_aload_n hx hb dX3_carsInState_5 rfl (lv_at hl 0 rfl) ?_
    refine cr_gSt X hk hM hP (i := 6) (v := .int (v0 162)) (by decide) gfX3_44 rfl dX3_carsInState_6 ?_
    refine lv_icmp_ge (tgt := 37) hx hb dX3_carsInState_9 (by decide) (fun c1 => ?_) (fun c1 => ?_)
    · have hf := it_t c1 hf
      refine lv_iload_n hx hb dX3_carsInState_37 rfl (lv_at hl 2 rfl) ?_
      obtain rfl := so_i hf
      exact rd_i hx hb hr hlk dX3_carsInState_38
    · have hf := it_f c1 hf
      refine lv_aload_n hx hb dX3_carsInState_12 rfl (lv_at hl 0 rfl) ?_
      refine cr_gSt X hk hM hP (i := 4) (v := .ref (ad (15 * k + 5))) (by decide) gfX3_26 rfl dX3_carsInState_13 ?_
      refine lv_iload_n hx hb dX3_carsInState_16 rfl (lv_at hl 3 rfl) ?_
      obtain ⟨hi2, hf⟩ := gd_o hf
      refine cr_cars X hk hP hi2 dX3_carsInState_17 ?_
      refine cr_gCar X hk hM (j := (Int32.toNatClampNeg x3)) (vin_lt hi2) hP (i := 0) (v := .int (v0 (90 + 9 * ((Int32.toNatClampNeg x3)) + 0))) (by decide) gfX3_67 rfl dX3_carsInState_18 ?_
      refine lv_iload_n hx hb dX3_carsInState_21 rfl (lv_at hl 1 rfl) ?_
      refine lv_icmp_ne (tgt := 31) hx hb dX3_carsInState_22 (by decide) (fun c3 => ?_) (fun c3 => ?_)
      · have hf := it_f c3 hf
        exact w3_carsInState_31 X hk hM hP (K4 := (f3_carsInState_4 v0 n)) ih  (lv_sub hl [0, 1, 2, 3] rfl) hf
      · have hf := it_t c3 hf
        refine lv_iload_n hx hb dX3_carsInState_25 rfl (lv_at hl 2 rfl) ?_
        refine lv_iconst (v := 1) hx hb dX3_carsInState_26 (by decide) ?_
        refine lv_iload_n hx hb dX3_carsInState_27 rfl (lv_at hl 3 rfl) ?_
        refine lv_ishl hx hb dX3_carsInState_28 ?_
        refine lv_ior hx hb dX3_carsInState_29 ?_
        refine lv_istore_n (lv' := [(2, .int (x2 ||| (1 <<< (x3 &&& 31)))), (0, .ref (ad (15 * k))), (1, .int x1), (3, .int x3)]) hx hb dX3_carsInState_30 rfl hl (by decide) rfl (fun ls hl => ?_)
        exact w3_carsInState_31 X hk hM hP (K4 := (f3_carsInState_4 v0 n)) ih  (lv_sub hl [1, 2, 0, 3] rfl) hf
def f3_carsInState_0 (v0 : Nat → Int32) (x1 : Int32) : Option (Int32) := f3_carsInState_4 v0 fu x1 0 0
set_option maxRecDepth 100000 in
set_option maxHeartbeats 4000000 in
theorem w3_carsInState_0 {p : Program} {l : Launch} {e : Env} {s : State} {m : MethodId} {args : Array Value} {below : List Frame} {meth : Method} {c : Code} {D : va_G} {Y : cYt} {ad : Nat → Nat} {μ : Nat → Nat → Int32} {k : Nat} {v0 : Nat → Int32} (X : cX D Y p s m args meth c cX3_carsInState 4 RX3 (some .int)) (hk : k < 10) (hM : μ k = v0) (hP : va_P D vwCl (cwW Y ad μ) s.heap) {x1 : Int32} {t : Int32}  {ls : Array Slot} (hl : lv_has ls 4 [(0, .ref (ad (15 * k))), (1, .int x1)]) (hf : f3_carsInState_0 v0 x1 = some t) : W p l e rm3_carsInState s m args below meth c s.heap [] 0 0 (MQ below (QcRead t) args s 0 0 (fun _ => False)) (F0 m 0 ls []) := by
  obtain ⟨⟨hx, hb, hml, hown, hts⟩, hr, hlk, hK⟩ := id X
  replace hf : (f3_carsInState_4 v0 fu x1 0 0) = some t := hf
  refine lv_iconst (v := 0) hx hb dX3_carsInState_0 (by decide) ?_
  refine lv_istore_n (lv' := [(2, .int 0), (0, .ref (ad (15 * k))), (1, .int x1)]) hx hb dX3_carsInState_1 rfl hl (by decide) rfl (fun ls hl => ?_)
  refine lv_iconst (v := 0) hx hb dX3_carsInState_2 (by decide) ?_
  refine lv_istore_n (lv' := [(3, .int 0), (2, .int 0), (0, .ref (ad (15 * k))), (1, .int x1)]) hx hb dX3_carsInState_3 rfl hl (by decide) rfl (fun ls hl => ?_)
  exact w3_carsInState_4 X hk hM hP _ _ _ _ _ (lv_sub hl [2, 3, 1, 0] rfl) hf
set_option maxRecDepth 100000 in
set_option maxHeartbeats 4000000 in
theorem c3_carsInState (l : Launch) {D : va_G} {Y : cYt} {ad : Nat → Nat} {μ : Nat → Nat → Int32} {k : Nat} (hk : k < 10) (x1 : Int32) {t : Int32} (hf : f3_carsInState_0 (μ k) x1 = some t) : Met l yX3_carsInState uX3_carsInState rm3_carsInState (va_Pc [.ref (ad (15 * k)), .int x1] (cB D Y ad μ)) (QcRead t) 0 0 (fun _ => False) := by
  refine Met.ofW (cc := cX3_carsInState) (maxL := 4) (ret := (some .int)) (by decide) rfl ?_
  intro p e s m args below meth c s₁ B hml hv
  obtain ⟨rfl, hP, hK⟩ := hv
  have X : cX D Y p s m ([.ref (ad (15 * k)), .int x1] : List Value).toArray meth c cX3_carsInState 4 RX3 (some .int) := ⟨⟨B.exec, B.bytes, hml, findClass_of_methodNamed B.named, fun w h => atoms_spec (ws := uX3_carsInState) B.pre w (List.mem_cons_of_mem _ h)⟩, B.returns, B.notSynchronized, hK⟩
  have hl := lv_entry ([.ref (ad (15 * k)), .int x1]) (n := 4) (Nat.le_of_ble_eq_true rfl)
  rw [lg_entry_eq]
  generalize (lg_sl ([.ref (ad (15 * k)), .int x1]) ++ List.replicate (4 - (lg_sl ([.ref (ad (15 * k)), .int x1])).length) Slot.unset).toArray = ls at hl ⊢
  have hl : lv_has ls 4 [(0, .ref (ad (15 * k))), (1, .int x1)] := hl
  exact w3_carsInState_0 X hk rfl hP (lv_sub hl [0, 1] rfl) hf
set_option maxRecDepth 100000 in
set_option maxHeartbeats 4000000 in
theorem k3_carsInState {p : Program} {l : Launch} {e : Env} {R : Room} {s : State} {m : MethodId} {args : Array Value} {below : List Frame} {meth : Method} {c : Code} {cc : ByteArray} {nL : Nat} {own : String} {ret : Option FieldType} {D : va_G} {Y : cYt} {ad : Nat → Nat} {μ : Nat → Nat → Int32} {H : Heap} {locs : List Loc} {cells slots : Nat} {Q : State → Prop} {pc : Nat} {ls : Array Slot} {rest : List Value} (X : cX D Y p s m args meth c cc nL own ret) {k : Nat} {v0 : Nat → Int32} (hk : k < 10) (hM : μ k = v0) (hP : va_P D vwCl (cwW Y ad μ) H) (hls : ls.size = nL) {index : Nat} (hG : GoodIn gw (wsV own index RX3 yX3_carsInState uX3_carsInState)) (hR : rm3_carsInState.frames + 1 ≤ R.frames ∧ 8 + (4 + 11) + rm3_carsInState.locals ≤ R.locals) {x1 : Int32} {t : Int32} (hf : f3_carsInState_0 v0 x1 = some t) (hrest : (rest.map fun v => v.category).sum ≤ 8) (hdg : decode cc pc = .ok (.invokevirtual index, 3)) (hc : cells ≤ R.cells ∧ slots ≤ R.slots) (kk : W p l e R s m args below meth c H locs cells slots Q (F0 m (pc + 3) ls (.int t :: rest))) : W p l e R s m args below meth c H locs cells slots Q (F0 m pc ls (.int x1 :: .ref (ad (15 * k)) :: rest)) := by
  subst hM
  exact W.callR (W.runV (As := [.int x1]) X.1 (c3_carsInState l hk x1 hf) (cwV 1 X.1.2.2.2.2 hG rfl rfl rfl (by decide +kernel) hR) ⟨cB_bl, va_recv X.2.2.2 hP (ci := 3) (q0 := 15 * k) rfl (cw_ate (by omega) ((cw_st (r := 0) hk (by omega)).trans rfl)), fun U hU hW => ⟨rfl, by rw [hU]; exact hP, va_K.moved hW.alike X.2.2.2⟩⟩ rfl rfl hls rfl (lv_room hrest) hdg hc) kk
/-! OreRailway$State.freeMules()I -/
def rm3_freeMules : Room := { frames := 1, cells := 0, slots := 0, locals := 23 }
def f3_freeMules_0 (v0 : Nat → Int32) : Option (Int32) := gd 2 3 (Option.bind (f3_carsInState_0 v0 4) (fun t2 => Option.bind (fJ6_bitCount_0 t2) (fun t3 => some (if 0 < ((v0 (168 + Int32.toNatClampNeg 2)) - t3) then ((v0 (168 + Int32.toNatClampNeg 2)) - t3) else 0))))
set_option maxRecDepth 100000 in
set_option maxHeartbeats 4000000 in
theorem w3_freeMules_0 {p : Program} {l : Launch} {e : Env} {s : State} {m : MethodId} {args : Array Value} {below : List Frame} {meth : Method} {c : Code} {D : va_G} {Y : cYt} {ad : Nat → Nat} {μ : Nat → Nat → Int32} {k : Nat} {v0 : Nat → Int32} (X : cX D Y p s m args meth c cX3_freeMules 1 RX3 (some .int)) (hk : k < 10) (hM : μ k = v0) (hP : va_P D vwCl (cwW Y ad μ) s.heap) {t : Int32}  {ls : Array Slot} (hl : lv_has ls 1 [(0, .ref (ad (15 * k)))]) (hf : f3_freeMules_0 v0  = some t) : W p l e rm3_freeMules s m args below meth c s.heap [] 0 0 (MQ below (QcRead t) args s 0 0 (fun _ => False)) (F0 m 0 ls []) := by
  obtain ⟨⟨hx, hb, hml, hown, hts⟩, hr, hlk, hK⟩ := id X
  replace hf : (gd 2 3 (Option.bind (f3_carsInState_0 v0 4) (fun t2 => Option.bind (fJ6_bitCount_0 t2) (fun t3 => some (if 0 < ((v0 (168 + Int32.toNatClampNeg 2)) - t3) then ((v0 (168 + Int32.toNatClampNeg 2)) - t3) else 0))))) = some t := hf
  refine lv_iconst (v := 0) hx hb dX3_freeMules_0 (by decide) ?_
  refine lv_aload_n hx hb dX3_freeMules_1 rfl (lv_at hl 0 rfl) ?_
  refine cr_gSt X hk hM hP (i := 3) (v := .ref (ad (15 * k + 4))) (by decide) gfX3_21 rfl dX3_freeMules_2 ?_
  refine lv_iconst (v := 2) hx hb dX3_freeMules_5 (by decide) ?_
  obtain ⟨hi1, hf⟩ := gd_o hf
  refine cr_ld4 X hk hM hP hi1 dX3_freeMules_6 ?_
  refine lv_aload_n hx hb dX3_freeMules_7 rfl (lv_at hl 0 rfl) ?_
  refine lv_iconst (v := 4) hx hb dX3_freeMules_8 (by decide) ?_
  obtain ⟨t2, ht2, hf⟩ := bd_o hf
  refine k3_carsInState X hk hM hP hl.1 qX3_97 ⟨Nat.le_of_ble_eq_true rfl, Nat.le_of_ble_eq_true rfl⟩ ht2 (Nat.le_of_ble_eq_true rfl) dX3_freeMules_9 ⟨Nat.zero_le _, Nat.zero_le _⟩ ?_
  obtain ⟨t3, ht3, hf⟩ := bd_o hf
  refine kJ6_bitCount X.1 hl.1 qX3_161 ⟨Nat.le_of_ble_eq_true rfl, Nat.le_of_ble_eq_true rfl⟩ ht3 (Nat.le_of_ble_eq_true rfl) dX3_freeMules_12 ⟨Nat.zero_le _, Nat.zero_le _⟩ ?_
  refine lv_isub hx hb dX3_freeMules_15 ?_
  refine va_mmax hx hb (hml.trans hl.1.symm) hown (hts _ gmX3_149) (hts _ gl_static_Lib_Math_max_name) (hts _ gi_java_lang_Math) (hts _ gl_code_Lib_Math_max_name) (Nat.le_of_ble_eq_true rfl) (Nat.le_of_ble_eq_true rfl) (Nat.zero_le _) (Nat.zero_le _) dX3_freeMules_16 ?_
  obtain rfl := so_i hf
  exact rd_i hx hb hr hlk dX3_freeMules_19
set_option maxRecDepth 100000 in
set_option maxHeartbeats 4000000 in
theorem c3_freeMules (l : Launch) {D : va_G} {Y : cYt} {ad : Nat → Nat} {μ : Nat → Nat → Int32} {k : Nat} (hk : k < 10) {t : Int32} (hf : f3_freeMules_0 (μ k) = some t) : Met l yX3_freeMules uX3_freeMules rm3_freeMules (va_Pc [.ref (ad (15 * k))] (cB D Y ad μ)) (QcRead t) 0 0 (fun _ => False) := by
  refine Met.ofW (cc := cX3_freeMules) (maxL := 1) (ret := (some .int)) (by decide) rfl ?_
  intro p e s m args below meth c s₁ B hml hv
  obtain ⟨rfl, hP, hK⟩ := hv
  have X : cX D Y p s m ([.ref (ad (15 * k))] : List Value).toArray meth c cX3_freeMules 1 RX3 (some .int) := ⟨⟨B.exec, B.bytes, hml, findClass_of_methodNamed B.named, fun w h => atoms_spec (ws := uX3_freeMules) B.pre w (List.mem_cons_of_mem _ h)⟩, B.returns, B.notSynchronized, hK⟩
  have hl := lv_entry ([.ref (ad (15 * k))]) (n := 1) (Nat.le_of_ble_eq_true rfl)
  rw [lg_entry_eq]
  generalize (lg_sl ([.ref (ad (15 * k))]) ++ List.replicate (1 - (lg_sl ([.ref (ad (15 * k))])).length) Slot.unset).toArray = ls at hl ⊢
  have hl : lv_has ls 1 [(0, .ref (ad (15 * k)))] := hl
  exact w3_freeMules_0 X hk rfl hP (lv_sub hl [0] rfl) hf
set_option maxRecDepth 100000 in
set_option maxHeartbeats 4000000 in
theorem k3_freeMules {p : Program} {l : Launch} {e : Env} {R : Room} {s : State} {m : MethodId} {args : Array Value} {below : List Frame} {meth : Method} {c : Code} {cc : ByteArray} {nL : Nat} {own : String} {ret : Option FieldType} {D : va_G} {Y : cYt} {ad : Nat → Nat} {μ : Nat → Nat → Int32} {H : Heap} {locs : List Loc} {cells slots : Nat} {Q : State → Prop} {pc : Nat} {ls : Array Slot} {rest : List Value} (X : cX D Y p s m args meth c cc nL own ret) {k : Nat} {v0 : Nat → Int32} (hk : k < 10) (hM : μ k = v0) (hP : va_P D vwCl (cwW Y ad μ) H) (hls : ls.size = nL) {index : Nat} (hG : GoodIn gw (wsV own index RX3 yX3_freeMules uX3_freeMules)) (hR : rm3_freeMules.frames + 1 ≤ R.frames ∧ 8 + (1 + 11) + rm3_freeMules.locals ≤ R.locals) {t : Int32} (hf : f3_freeMules_0 v0 = some t) (hrest : (rest.map fun v => v.category).sum ≤ 8) (hdg : decode cc pc = .ok (.invokevirtual index, 3)) (hc : cells ≤ R.cells ∧ slots ≤ R.slots) (kk : W p l e R s m args below meth c H locs cells slots Q (F0 m (pc + 3) ls (.int t :: rest))) : W p l e R s m args below meth c H locs cells slots Q (F0 m pc ls (.ref (ad (15 * k)) :: rest)) := by
  subst hM
  exact W.callR (W.runV (As := []) X.1 (c3_freeMules l hk hf) (cwV 0 X.1.2.2.2.2 hG rfl rfl rfl (by decide +kernel) hR) ⟨cB_bl, va_recv X.2.2.2 hP (ci := 3) (q0 := 15 * k) rfl (cw_ate (by omega) ((cw_st (r := 0) hk (by omega)).trans rfl)), fun U hU hW => ⟨rfl, by rw [hU]; exact hP, va_K.moved hW.alike X.2.2.2⟩⟩ rfl rfl hls rfl (lv_room hrest) hdg hc) kk
/-! OreRailway$State.pullRefusal(I)I -/
def rm3_pullRefusal : Room := { frames := 2, cells := 0, slots := 0, locals := 43 }
def f3_pullRefusal_34 (v0 : Nat → Int32) (y0 : Int32) : Option (Int32) := some y0
set_option maxRecDepth 100000 in
set_option maxHeartbeats 4000000 in
theorem w3_pullRefusal_34 {p : Program} {l : Launch} {e : Env} {s : State} {m : MethodId} {args : Array Value} {below : List Frame} {meth : Method} {c : Code} {D : va_G} {Y : cYt} {ad : Nat → Nat} {μ : Nat → Nat → Int32} {k : Nat} {v0 : Nat → Int32} (X : cX D Y p s m args meth c cX3_pullRefusal 3 RX3 (some .int)) (hk : k < 10) (hM : μ k = v0) (hP : va_P D vwCl (cwW Y ad μ) s.heap) {y0 : Int32} {t : Int32}  {ls : Array Slot} (hl : lv_has ls 3 []) (hf : f3_pullRefusal_34 v0 y0 = some t) : W p l e rm3_pullRefusal s m args below meth c s.heap [] 0 0 (MQ below (QcRead t) args s 0 0 (fun _ => False)) (F0 m 34 ls [.int y0]) := by
  obtain ⟨⟨hx, hb, hml, hown, hts⟩, hr, hlk, hK⟩ := id X
  replace hf : (some y0) = some t := hf
  obtain rfl := so_i hf
  exact rd_i hx hb hr hlk dX3_pullRefusal_34
def f3_pullRefusal_22 (v0 : Nat → Int32) : Option (Int32) := Option.bind (f3_freeMules_0 v0) (fun t1 => if t1 = 0 then (f3_pullRefusal_34 v0 2) else (f3_pullRefusal_34 v0 0))
set_option maxRecDepth 100000 in
set_option maxHeartbeats 4000000 in
theorem w3_pullRefusal_22 {p : Program} {l : Launch} {e : Env} {s : State} {m : MethodId} {args : Array Value} {below : List Frame} {meth : Method} {c : Code} {D : va_G} {Y : cYt} {ad : Nat → Nat} {μ : Nat → Nat → Int32} {k : Nat} {v0 : Nat → Int32} (X : cX D Y p s m args meth c cX3_pullRefusal 3 RX3 (some .int)) (hk : k < 10) (hM : μ k = v0) (hP : va_P D vwCl (cwW Y ad μ) s.heap) {t : Int32}  {ls : Array Slot} (hl : lv_has ls 3 [(0, .ref (ad (15 * k)))]) (hf : f3_pullRefusal_22 v0  = some t) : W p l e rm3_pullRefusal s m args below meth c s.heap [] 0 0 (MQ below (QcRead t) args s 0 0 (fun _ => False)) (F0 m 22 ls []) := by
  obtain ⟨⟨hx, hb, hml, hown, hts⟩, hr, hlk, hK⟩ := id X
  replace hf : (Option.bind (f3_freeMules_0 v0) (fun t1 => if t1 = 0 then (f3_pullRefusal_34 v0 2) else (f3_pullRefusal_34 v0 0))) = some t := hf
  refine lv_aload_n hx hb dX3_pullRefusal_22 rfl (lv_at hl 0 rfl) ?_
  obtain ⟨t1, ht1, hf⟩ := bd_o hf
  refine k3_freeMules X hk hM hP hl.1 qX3_87 ⟨Nat.le_of_ble_eq_true rfl, Nat.le_of_ble_eq_true rfl⟩ ht1 (Nat.le_of_ble_eq_true rfl) dX3_pullRefusal_23 ⟨Nat.zero_le _, Nat.zero_le _⟩ ?_
  refine lv_if_ne (tgt := 33) hx hb dX3_pullRefusal_26 (by decide) (fun c2 => ?_) (fun c2 => ?_)
  · have hf := it_f c2 hf
    refine lv_iconst (v := 0) hx hb dX3_pullRefusal_33 (by decide) ?_
    exact w3_pullRefusal_34 X hk hM hP  (lv_sub hl [] rfl) hf
  · have hf := it_t c2 hf
    refine lv_iconst (v := 2) hx hb dX3_pullRefusal_29 (by decide) ?_
    refine lv_goto (tgt := 34) hx hb dX3_pullRefusal_30 (by decide) ?_
    exact w3_pullRefusal_34 X hk hM hP  (lv_sub hl [] rfl) hf
def f3_pullRefusal_0 (v0 : Nat → Int32) (x1 : Int32) : Option (Int32) := gd x1 8 (if (v0 (90 + 9 * ((Int32.toNatClampNeg x1)) + 0)) = 2 then (f3_pullRefusal_22 v0) else (if (v0 (90 + 9 * ((Int32.toNatClampNeg x1)) + 0)) = 3 then (f3_pullRefusal_22 v0) else (some 1)))
set_option maxRecDepth 100000 in
set_option maxHeartbeats 4000000 in
theorem w3_pullRefusal_0 {p : Program} {l : Launch} {e : Env} {s : State} {m : MethodId} {args : Array Value} {below : List Frame} {meth : Method} {c : Code} {D : va_G} {Y : cYt} {ad : Nat → Nat} {μ : Nat → Nat → Int32} {k : Nat} {v0 : Nat → Int32} (X : cX D Y p s m args meth c cX3_pullRefusal 3 RX3 (some .int)) (hk : k < 10) (hM : μ k = v0) (hP : va_P D vwCl (cwW Y ad μ) s.heap) {x1 : Int32} {t : Int32}  {ls : Array Slot} (hl : lv_has ls 3 [(0, .ref (ad (15 * k))), (1, .int x1)]) (hf : f3_pullRefusal_0 v0 x1 = some t) : W p l e rm3_pullRefusal s m args below meth c s.heap [] 0 0 (MQ below (QcRead t) args s 0 0 (fun _ => False)) (F0 m 0 ls []) := by
  obtain ⟨⟨hx, hb, hml, hown, hts⟩, hr, hlk, hK⟩ := id X
  replace hf : (gd x1 8 (if (v0 (90 + 9 * ((Int32.toNatClampNeg x1)) + 0)) = 2 then (f3_pullRefusal_22 v0) else (if (v0 (90 + 9 * ((Int32.toNatClampNeg x1)) + 0)) = 3 then (f3_pullRefusal_22 v0) else (some 1)))) = some t := hf
  refine lv_aload_n hx hb dX3_pullRefusal_0 rfl (lv_at hl 0 rfl) ?_
  refine cr_gSt X hk hM hP (i := 4) (v := .ref (ad (15 * k + 5))) (by decide) gfX3_26 rfl dX3_pullRefusal_1 ?_
  refine lv_iload_n hx hb dX3_pullRefusal_4 rfl (lv_at hl 1 rfl) ?_
  obtain ⟨hi1, hf⟩ := gd_o hf
  refine cr_cars X hk hP hi1 dX3_pullRefusal_5 ?_
  refine cr_gCar X hk hM (j := (Int32.toNatClampNeg x1)) (vin_lt hi1) hP (i := 0) (v := .int (v0 (90 + 9 * ((Int32.toNatClampNeg x1)) + 0))) (by decide) gfX3_67 rfl dX3_pullRefusal_6 ?_
  refine lv_istore_n (lv' := [(2, .int (v0 (90 + 9 * ((Int32.toNatClampNeg x1)) + 0))), (0, .ref (ad (15 * k))), (1, .int x1)]) hx hb dX3_pullRefusal_9 rfl hl (by decide) rfl (fun ls hl => ?_)
  refine lv_iload_n hx hb dX3_pullRefusal_10 rfl (lv_at hl 0 rfl) ?_
  refine lv_iconst (v := 2) hx hb dX3_pullRefusal_11 (by decide) ?_
  refine lv_icmp_eq (tgt := 22) hx hb dX3_pullRefusal_12 (by decide) (fun c2 => ?_) (fun c2 => ?_)
  · have hf := it_t c2 hf
    exact w3_pullRefusal_22 X hk hM hP  (lv_sub hl [1] rfl) hf
  · have hf := it_f c2 hf
    refine lv_iload_n hx hb dX3_pullRefusal_15 rfl (lv_at hl 0 rfl) ?_
    refine lv_iconst (v := 3) hx hb dX3_pullRefusal_16 (by decide) ?_
    refine lv_icmp_eq (tgt := 22) hx hb dX3_pullRefusal_17 (by decide) (fun c3 => ?_) (fun c3 => ?_)
    · have hf := it_t c3 hf
      exact w3_pullRefusal_22 X hk hM hP  (lv_sub hl [1] rfl) hf
    · have hf := it_f c3 hf
      refine lv_iconst (v := 1) hx hb dX3_pullRefusal_20 (by decide) ?_
      obtain rfl := so_i hf
      exact rd_i hx hb hr hlk dX3_pullRefusal_21
set_option maxRecDepth 100000 in
set_option maxHeartbeats 4000000 in
theorem c3_pullRefusal (l : Launch) {D : va_G} {Y : cYt} {ad : Nat → Nat} {μ : Nat → Nat → Int32} {k : Nat} (hk : k < 10) (x1 : Int32) {t : Int32} (hf : f3_pullRefusal_0 (μ k) x1 = some t) : Met l yX3_pullRefusal uX3_pullRefusal rm3_pullRefusal (va_Pc [.ref (ad (15 * k)), .int x1] (cB D Y ad μ)) (QcRead t) 0 0 (fun _ => False) := by
  refine Met.ofW (cc := cX3_pullRefusal) (maxL := 3) (ret := (some .int)) (by decide) rfl ?_
  intro p e s m args below meth c s₁ B hml hv
  obtain ⟨rfl, hP, hK⟩ := hv
  have X : cX D Y p s m ([.ref (ad (15 * k)), .int x1] : List Value).toArray meth c cX3_pullRefusal 3 RX3 (some .int) := ⟨⟨B.exec, B.bytes, hml, findClass_of_methodNamed B.named, fun w h => atoms_spec (ws := uX3_pullRefusal) B.pre w (List.mem_cons_of_mem _ h)⟩, B.returns, B.notSynchronized, hK⟩
  have hl := lv_entry ([.ref (ad (15 * k)), .int x1]) (n := 3) (Nat.le_of_ble_eq_true rfl)
  rw [lg_entry_eq]
  generalize (lg_sl ([.ref (ad (15 * k)), .int x1]) ++ List.replicate (3 - (lg_sl ([.ref (ad (15 * k)), .int x1])).length) Slot.unset).toArray = ls at hl ⊢
  have hl : lv_has ls 3 [(0, .ref (ad (15 * k))), (1, .int x1)] := hl
  exact w3_pullRefusal_0 X hk rfl hP (lv_sub hl [0, 1] rfl) hf
set_option maxRecDepth 100000 in
set_option maxHeartbeats 4000000 in
theorem k3_pullRefusal {p : Program} {l : Launch} {e : Env} {R : Room} {s : State} {m : MethodId} {args : Array Value} {below : List Frame} {meth : Method} {c : Code} {cc : ByteArray} {nL : Nat} {own : String} {ret : Option FieldType} {D : va_G} {Y : cYt} {ad : Nat → Nat} {μ : Nat → Nat → Int32} {H : Heap} {locs : List Loc} {cells slots : Nat} {Q : State → Prop} {pc : Nat} {ls : Array Slot} {rest : List Value} (X : cX D Y p s m args meth c cc nL own ret) {k : Nat} {v0 : Nat → Int32} (hk : k < 10) (hM : μ k = v0) (hP : va_P D vwCl (cwW Y ad μ) H) (hls : ls.size = nL) {index : Nat} (hG : GoodIn gw (wsV own index RX3 yX3_pullRefusal uX3_pullRefusal)) (hR : rm3_pullRefusal.frames + 1 ≤ R.frames ∧ 8 + (3 + 11) + rm3_pullRefusal.locals ≤ R.locals) {x1 : Int32} {t : Int32} (hf : f3_pullRefusal_0 v0 x1 = some t) (hrest : (rest.map fun v => v.category).sum ≤ 8) (hdg : decode cc pc = .ok (.invokevirtual index, 3)) (hc : cells ≤ R.cells ∧ slots ≤ R.slots) (kk : W p l e R s m args below meth c H locs cells slots Q (F0 m (pc + 3) ls (.int t :: rest))) : W p l e R s m args below meth c H locs cells slots Q (F0 m pc ls (.int x1 :: .ref (ad (15 * k)) :: rest)) := by
  subst hM
  exact W.callR (W.runV (As := [.int x1]) X.1 (c3_pullRefusal l hk x1 hf) (cwV 1 X.1.2.2.2.2 hG rfl rfl rfl (by decide +kernel) hR) ⟨cB_bl, va_recv X.2.2.2 hP (ci := 3) (q0 := 15 * k) rfl (cw_ate (by omega) ((cw_st (r := 0) hk (by omega)).trans rfl)), fun U hU hW => ⟨rfl, by rw [hU]; exact hP, va_K.moved hW.alike X.2.2.2⟩⟩ rfl rfl hls rfl (lv_room hrest) hdg hc) kk
/-! OreRailway$State.harnessMule(I)I -/
def rm3_harnessMule : Room := { frames := 3, cells := 0, slots := 0, locals := 65 }
def f3_harnessMule_0 (x1 : Int32) (v0 : Nat → Int32) : Option (Int32 × (Nat → Int32)) := Option.bind (f3_pullRefusal_0 v0 x1) (fun t1 => if t1 = 0 then (gd x1 8 (gd x1 8 (some (0, upd (upd v0 (90 + 9 * ((Int32.toNatClampNeg x1)) + 0) 4) (90 + 9 * ((Int32.toNatClampNeg x1)) + 2) 0)))) else (some (t1, upd v0 167 ((v0 167) + 1))))
set_option maxRecDepth 100000 in
set_option maxHeartbeats 4000000 in
theorem w3_harnessMule_0 {p : Program} {l : Launch} {e : Env} {s : State} {m : MethodId} {args : Array Value} {below : List Frame} {meth : Method} {c : Code} {D : va_G} {Y : cYt} {ad : Nat → Nat} {μ : Nat → Nat → Int32} {k : Nat} {v0 : Nat → Int32} (X : cX D Y p s m args meth c cX3_harnessMule 3 RX3 (some .int)) (hI : cInj ad) (hk : k < 10)  {x1 : Int32} {t : Int32 × (Nat → Int32)}  {H : Heap} {locs : List Loc} (hH : cH D Y ad (s1 μ k v0) s H locs) {ls : Array Slot} (hl : lv_has ls 3 [(0, .ref (ad (15 * k))), (1, .int x1)]) (hf : f3_harnessMule_0 x1 v0 = some t) : W p l e rm3_harnessMule s m args below meth c H locs 0 0 (MQ below (va_Qi (fun (r9 : Int32) (_ : Unit) => r9 = t.1) (fun _ t9 => cB D Y ad (s1 μ k t.2) t9) (cA ad s.heap.size)) args s 0 0 (cA ad s.heap.size)) (F0 m 0 ls []) := by
  obtain ⟨⟨hx, hb, hml, hown, hts⟩, hr, hlk, hK⟩ := id X
  replace hf : (Option.bind (f3_pullRefusal_0 v0 x1) (fun t1 => if t1 = 0 then (gd x1 8 (gd x1 8 (some (0, upd (upd v0 (90 + 9 * ((Int32.toNatClampNeg x1)) + 0) 4) (90 + 9 * ((Int32.toNatClampNeg x1)) + 2) 0)))) else (some (t1, upd v0 167 ((v0 167) + 1))))) = some t := hf
  refine lv_aload_n hx hb dX3_harnessMule_0 rfl (lv_at hl 0 rfl) ?_
  refine lv_iload_n hx hb dX3_harnessMule_1 rfl (lv_at hl 1 rfl) ?_
  obtain ⟨t1, ht1, hf⟩ := bd_o hf
  refine k3_pullRefusal X hk s1_k hH.1 hl.1 qX3_91 ⟨Nat.le_of_ble_eq_true rfl, Nat.le_of_ble_eq_true rfl⟩ ht1 (Nat.le_of_ble_eq_true rfl) dX3_harnessMule_2 ⟨Nat.zero_le _, Nat.zero_le _⟩ ?_
  refine lv_istore_n (lv' := [(2, .int t1), (0, .ref (ad (15 * k))), (1, .int x1)]) hx hb dX3_harnessMule_5 rfl hl (by decide) rfl (fun ls hl => ?_)
  refine lv_iload_n hx hb dX3_harnessMule_6 rfl (lv_at hl 0 rfl) ?_
  refine lv_if_eq (tgt := 22) hx hb dX3_harnessMule_7 (by decide) (fun c2 => ?_) (fun c2 => ?_)
  · have hf := it_t c2 hf
    refine lv_aload_n hx hb dX3_harnessMule_22 rfl (lv_at hl 1 rfl) ?_
    refine cr_gSt X hk s1_k hH.1 (i := 4) (v := .ref (ad (15 * k + 5))) (by decide) gfX3_26 rfl dX3_harnessMule_23 ?_
    refine lv_iload_n hx hb dX3_harnessMule_26 rfl (lv_at hl 2 rfl) ?_
    obtain ⟨hi3, hf⟩ := gd_o hf
    refine cr_cars X hk hH.1 hi3 dX3_harnessMule_27 ?_
    refine lv_iconst (v := 4) hx hb dX3_harnessMule_28 (by decide) ?_
    refine cv_pCar X hI hk (vin_lt hi3) hH 0 (by decide) gfX3_67 dX3_harnessMule_29 (fun H locs hH => ?_)
    refine lv_aload_n hx hb dX3_harnessMule_32 rfl (lv_at hl 1 rfl) ?_
    refine cr_gSt X hk s1_k hH.1 (i := 4) (v := .ref (ad (15 * k + 5))) (by decide) gfX3_26 rfl dX3_harnessMule_33 ?_
    refine lv_iload_n hx hb dX3_harnessMule_36 rfl (lv_at hl 2 rfl) ?_
    obtain ⟨hi4, hf⟩ := gd_o hf
    refine cr_cars X hk hH.1 hi4 dX3_harnessMule_37 ?_
    refine lv_iconst (v := 0) hx hb dX3_harnessMule_38 (by decide) ?_
    refine cv_pCar X hI hk (vin_lt hi4) hH 2 (by decide) gfX3_84 dX3_harnessMule_39 (fun H locs hH => ?_)
    refine lv_iconst (v := 0) hx hb dX3_harnessMule_42 (by decide) ?_
    obtain rfl := so_i hf
    exact cr_iw X hH rfl dX3_harnessMule_43
  · have hf := it_f c2 hf
    refine lv_aload_n hx hb dX3_harnessMule_10 rfl (lv_at hl 1 rfl) ?_
    refine lv_dup hx hb dX3_harnessMule_11 rfl ?_
    refine cr_gSt X hk s1_k hH.1 (i := 11) (v := .int (v0 167)) (by decide) gfX3_60 rfl dX3_harnessMule_12 ?_
    refine lv_iconst (v := 1) hx hb dX3_harnessMule_15 (by decide) ?_
    refine lv_iadd hx hb dX3_harnessMule_16 ?_
    refine cv_pSt X hI hk hH 11 (by decide) gfX3_60 dX3_harnessMule_17 (fun H locs hH => ?_)
    refine lv_iload_n hx hb dX3_harnessMule_20 rfl (lv_at hl 0 rfl) ?_
    obtain rfl := so_i hf
    exact cr_iw X hH rfl dX3_harnessMule_21
set_option maxRecDepth 100000 in
set_option maxHeartbeats 4000000 in
theorem c3_harnessMule (l : Launch) {D : va_G} {Y : cYt} {ad : Nat → Nat} {μ : Nat → Nat → Int32} {k : Nat} (hk : k < 10) (hI : cInj ad) (sz : Nat) (x1 : Int32) {t : Int32 × (Nat → Int32)} (hf : f3_harnessMule_0 x1 (μ k) = some t) : Met l yX3_harnessMule uX3_harnessMule rm3_harnessMule (va_Pc [.ref (ad (15 * k)), .int x1] (fun U => U.heap.size = sz ∧ cB D Y ad μ U)) (va_Qi (fun (r9 : Int32) (_ : Unit) => r9 = t.1) (fun _ t9 => cB D Y ad (s1 μ k t.2) t9) (cA ad sz)) 0 0 (cA ad sz) := by
  refine Met.ofW (cc := cX3_harnessMule) (maxL := 3) (ret := (some .int)) (by decide) rfl ?_
  intro p e s m args below meth c s₁ B hml hv
  obtain ⟨rfl, hsz, hP, hK⟩ := hv
  subst hsz
  have X : cX D Y p s m ([.ref (ad (15 * k)), .int x1] : List Value).toArray meth c cX3_harnessMule 3 RX3 (some .int) := ⟨⟨B.exec, B.bytes, hml, findClass_of_methodNamed B.named, fun w h => atoms_spec (ws := uX3_harnessMule) B.pre w (List.mem_cons_of_mem _ h)⟩, B.returns, B.notSynchronized, hK⟩
  have hl := lv_entry ([.ref (ad (15 * k)), .int x1]) (n := 3) (Nat.le_of_ble_eq_true rfl)
  rw [lg_entry_eq]
  generalize (lg_sl ([.ref (ad (15 * k)), .int x1]) ++ List.replicate (3 - (lg_sl ([.ref (ad (15 * k)), .int x1])).length) Slot.unset).toArray = ls at hl ⊢
  have hl : lv_has ls 3 [(0, .ref (ad (15 * k))), (1, .int x1)] := hl
  exact w3_harnessMule_0 X hI hk (cH_in k ⟨hP, va_S.rf⟩) (lv_sub hl [0, 1] rfl) hf
set_option maxRecDepth 100000 in
set_option maxHeartbeats 4000000 in
theorem km3_harnessMule {p : Program} {l : Launch} {e : Env} {R : Room} {s : State} {m : MethodId} {args : Array Value} {below : List Frame} {meth : Method} {c : Code} {cc : ByteArray} {nL : Nat} {own : String} {ret : Option FieldType} {D : va_G} {Y : cYt} {ad : Nat → Nat} {μ : Nat → Nat → Int32} {H : Heap} {locs : List Loc} {cells slots : Nat} {Q : State → Prop} {pc : Nat} {ls : Array Slot} {rest : List Value} (X : cX D Y p s m args meth c cc nL own ret) {k : Nat} (hI : cInj ad) (hk : k < 10) (hH : cH D Y ad μ s H locs) (hls : ls.size = nL) {index : Nat} (hG : GoodIn gw (wsV own index RX3 yX3_harnessMule uX3_harnessMule)) (hR : rm3_harnessMule.frames + 1 ≤ R.frames ∧ 8 + (3 + 11) + rm3_harnessMule.locals ≤ R.locals) {x1 : Int32} {t : Int32 × (Nat → Int32)} (hf : f3_harnessMule_0 x1 (μ k) = some t) (hrest : (rest.map fun v => v.category).sum ≤ 8) (hdg : decode cc pc = .ok (.invokevirtual index, 3)) (hc : cells ≤ R.cells ∧ slots ≤ R.slots) (kk : ∀ (H1 : Heap) (locs1 : List Loc), cH D Y ad (s1 μ k t.2) s H1 locs1 → W p l e R s m args below meth c H1 locs1 cells slots Q (F0 m (pc + 3) ls (.int t.1 :: rest))) : W p l e R s m args below meth c H locs cells slots Q (F0 m pc ls (.int x1 :: .ref (ad (15 * k)) :: rest)) := by
  have hA : ∀ q, cA ad H.size q → cA ad s.heap.size q := fun q h => h.elim Or.inl (fun h => Or.inr (Nat.le_trans hH.2.1 h))
  refine va_calli (va_runV (As := [.int x1]) (rest := rest) X.1 (c3_harnessMule l hk hI H.size x1 hf) (cwV 1 X.1.2.2.2.2 hG rfl rfl rfl (by decide +kernel) hR) ⟨cBs_bl, va_recv X.2.2.2 hH.1 (ci := 3) (q0 := 15 * k) rfl (cw_ate (by omega) ((cw_st (r := 0) hk (by omega)).trans rfl)), fun U hU hW => ⟨rfl, by rw [hU], by rw [hU]; exact hH.1, va_K.moved hW.alike X.2.2.2⟩⟩ rfl rfl hls rfl (lv_room hrest) hdg hc) hH.2 (fun q _ h => hA q h) hA (fun r9 u t9 H1 locs1 ht hvm hw hB hz1 hk1 hS => ?_)
  subst hw
  exact kk H1 locs1 ⟨by rw [← ht]; exact hB.1, hS⟩
set_option maxRecDepth 100000 in
set_option maxHeartbeats 4000000 in
theorem k3_harnessMule {p : Program} {l : Launch} {e : Env} {R : Room} {s : State} {m : MethodId} {args : Array Value} {below : List Frame} {meth : Method} {c : Code} {cc : ByteArray} {nL : Nat} {own : String} {ret : Option FieldType} {D : va_G} {Y : cYt} {ad : Nat → Nat} {μ : Nat → Nat → Int32} {H : Heap} {locs : List Loc} {cells slots : Nat} {Q : State → Prop} {pc : Nat} {ls : Array Slot} {rest : List Value} (X : cX D Y p s m args meth c cc nL own ret) {k : Nat} {v0 : Nat → Int32} (hI : cInj ad) (hk : k < 10) (hH : cH D Y ad (s1 μ k v0) s H locs) (hls : ls.size = nL) {index : Nat} (hG : GoodIn gw (wsV own index RX3 yX3_harnessMule uX3_harnessMule)) (hR : rm3_harnessMule.frames + 1 ≤ R.frames ∧ 8 + (3 + 11) + rm3_harnessMule.locals ≤ R.locals) {x1 : Int32} {t : Int32 × (Nat → Int32)} (hf : f3_harnessMule_0 x1 v0 = some t) (hrest : (rest.map fun v => v.category).sum ≤ 8) (hdg : decode cc pc = .ok (.invokevirtual index, 3)) (hc : cells ≤ R.cells ∧ slots ≤ R.slots) (kk : ∀ (H1 : Heap) (locs1 : List Loc), cH D Y ad (s1 μ k t.2) s H1 locs1 → W p l e R s m args below meth c H1 locs1 cells slots Q (F0 m (pc + 3) ls (.int t.1 :: rest))) : W p l e R s m args below meth c H locs cells slots Q (F0 m pc ls (.int x1 :: .ref (ad (15 * k)) :: rest)) := by
  have hf2 : f3_harnessMule_0 x1 (s1 μ k v0 k) = some t := by rw [s1_k]; exact hf
  exact km3_harnessMule (μ := s1 μ k v0) X hI hk hH hls hG hR hf2 hrest hdg hc (fun H1 locs1 h => kk H1 locs1 (by rw [s1_s1] at h; exact h))
/-! OreRailway$State.leaveOneCar(II)V -/
def rm3_leaveOneCar : Room := { frames := 1, cells := 0, slots := 0, locals := 20 }
def f3_leaveOneCar_44 (v0 : Nat → Int32) : Option ((Nat → Int32)) := some (v0)
set_option maxRecDepth 100000 in
set_option maxHeartbeats 4000000 in
theorem w3_leaveOneCar_44 {p : Program} {l : Launch} {e : Env} {s : State} {m : MethodId} {args : Array Value} {below : List Frame} {meth : Method} {c : Code} {D : va_G} {Y : cYt} {ad : Nat → Nat} {μ : Nat → Nat → Int32} {k : Nat} {v0 : Nat → Int32} (X : cX D Y p s m args meth c cX3_leaveOneCar 3 RX3 none) (hI : cInj ad) (hk : k < 10)  {t : (Nat → Int32)}  {H : Heap} {locs : List Loc} (hH : cH D Y ad (s1 μ k v0) s H locs) {ls : Array Slot} (hl : lv_has ls 3 []) (hf : f3_leaveOneCar_44 v0 = some t) : W p l e rm3_leaveOneCar s m args below meth c H locs 0 0 (MQ below (va_Qv (fun (_ : Unit) => True) (fun _ t9 => cB D Y ad (s1 μ k t) t9) (cA ad s.heap.size)) args s 0 0 (cA ad s.heap.size)) (F0 m 44 ls []) := by
  obtain ⟨⟨hx, hb, hml, hown, hts⟩, hr, hlk, hK⟩ := id X
  replace hf : (some (v0)) = some t := hf
  obtain rfl := so_i hf
  exact cr_vw X hH rfl dX3_leaveOneCar_44
def f3_leaveOneCar_0 (x1 : Int32) (x2 : Int32) (v0 : Nat → Int32) : Option ((Nat → Int32)) := gd 0 8 (Option.bind (f0_makeNew_0 ((Int32.toNatClampNeg 0)) (upd v0 162 1)) (fun t2 => gd 0 8 (gd 0 8 (gd 0 8 (f3_leaveOneCar_44 (upd (upd (upd t2 (90 + 9 * ((Int32.toNatClampNeg 0)) + 0) 1) (90 + 9 * ((Int32.toNatClampNeg 0)) + 1) x1) (90 + 9 * ((Int32.toNatClampNeg 0)) + 2) x2))))))
set_option maxRecDepth 100000 in
set_option maxHeartbeats 4000000 in
theorem w3_leaveOneCar_0 {p : Program} {l : Launch} {e : Env} {s : State} {m : MethodId} {args : Array Value} {below : List Frame} {meth : Method} {c : Code} {D : va_G} {Y : cYt} {ad : Nat → Nat} {μ : Nat → Nat → Int32} {k : Nat} {v0 : Nat → Int32} (X : cX D Y p s m args meth c cX3_leaveOneCar 3 RX3 none) (hI : cInj ad) (hk : k < 10)  {x1 : Int32} {x2 : Int32} {t : (Nat → Int32)}  {H : Heap} {locs : List Loc} (hH : cH D Y ad (s1 μ k v0) s H locs) {ls : Array Slot} (hl : lv_has ls 3 [(0, .ref (ad (15 * k))), (1, .int x1), (2, .int x2)]) (hf : f3_leaveOneCar_0 x1 x2 v0 = some t) : W p l e rm3_leaveOneCar s m args below meth c H locs 0 0 (MQ below (va_Qv (fun (_ : Unit) => True) (fun _ t9 => cB D Y ad (s1 μ k t) t9) (cA ad s.heap.size)) args s 0 0 (cA ad s.heap.size)) (F0 m 0 ls []) := by
  obtain ⟨⟨hx, hb, hml, hown, hts⟩, hr, hlk, hK⟩ := id X
  replace hf : (gd 0 8 (Option.bind (f0_makeNew_0 ((Int32.toNatClampNeg 0)) (upd v0 162 1)) (fun t2 => gd 0 8 (gd 0 8 (gd 0 8 (f3_leaveOneCar_44 (upd (upd (upd t2 (90 + 9 * ((Int32.toNatClampNeg 0)) + 0) 1) (90 + 9 * ((Int32.toNatClampNeg 0)) + 1) x1) (90 + 9 * ((Int32.toNatClampNeg 0)) + 2) x2))))))) = some t := hf
  refine lv_aload_n hx hb dX3_leaveOneCar_0 rfl (lv_at hl 0 rfl) ?_
  refine lv_iconst (v := 1) hx hb dX3_leaveOneCar_1 (by decide) ?_
  refine cv_pSt X hI hk hH 6 (by decide) gfX3_44 dX3_leaveOneCar_2 (fun H locs hH => ?_)
  refine lv_aload_n hx hb dX3_leaveOneCar_5 rfl (lv_at hl 0 rfl) ?_
  refine cr_gSt X hk s1_k hH.1 (i := 4) (v := .ref (ad (15 * k + 5))) (by decide) gfX3_26 rfl dX3_leaveOneCar_6 ?_
  refine lv_iconst (v := 0) hx hb dX3_leaveOneCar_9 (by decide) ?_
  obtain ⟨hi1, hf⟩ := gd_o hf
  refine cr_cars X hk hH.1 hi1 dX3_leaveOneCar_10 ?_
  obtain ⟨t2, ht2, hf⟩ := bd_o hf
  refine k0_makeNew X hI hk (vin_lt hi1) hH hl.1 qX3_70 ⟨Nat.le_of_ble_eq_true rfl, Nat.le_of_ble_eq_true rfl⟩ ht2 (Nat.le_of_ble_eq_true rfl) dX3_leaveOneCar_11 ⟨Nat.zero_le _, Nat.zero_le _⟩ (fun H locs hH => ?_)
  refine lv_aload_n hx hb dX3_leaveOneCar_14 rfl (lv_at hl 0 rfl) ?_
  refine cr_gSt X hk s1_k hH.1 (i := 4) (v := .ref (ad (15 * k + 5))) (by decide) gfX3_26 rfl dX3_leaveOneCar_15 ?_
  refine lv_iconst (v := 0) hx hb dX3_leaveOneCar_18 (by decide) ?_
  obtain ⟨hi3, hf⟩ := gd_o hf
  refine cr_cars X hk hH.1 hi3 dX3_leaveOneCar_19 ?_
  refine lv_iconst (v := 1) hx hb dX3_leaveOneCar_20 (by decide) ?_
  refine cv_pCar X hI hk (vin_lt hi3) hH 0 (by decide) gfX3_67 dX3_leaveOneCar_21 (fun H locs hH => ?_)
  refine lv_aload_n hx hb dX3_leaveOneCar_24 rfl (lv_at hl 0 rfl) ?_
  refine cr_gSt X hk s1_k hH.1 (i := 4) (v := .ref (ad (15 * k + 5))) (by decide) gfX3_26 rfl dX3_leaveOneCar_25 ?_
  refine lv_iconst (v := 0) hx hb dX3_leaveOneCar_28 (by decide) ?_
  obtain ⟨hi4, hf⟩ := gd_o hf
  refine cr_cars X hk hH.1 hi4 dX3_leaveOneCar_29 ?_
  refine lv_iload_n hx hb dX3_leaveOneCar_30 rfl (lv_at hl 1 rfl) ?_
  refine cv_pCar X hI hk (vin_lt hi4) hH 1 (by decide) gfX3_73 dX3_leaveOneCar_31 (fun H locs hH => ?_)
  refine lv_aload_n hx hb dX3_leaveOneCar_34 rfl (lv_at hl 0 rfl) ?_
  refine cr_gSt X hk s1_k hH.1 (i := 4) (v := .ref (ad (15 * k + 5))) (by decide) gfX3_26 rfl dX3_leaveOneCar_35 ?_
  refine lv_iconst (v := 0) hx hb dX3_leaveOneCar_38 (by decide) ?_
  obtain ⟨hi5, hf⟩ := gd_o hf
  refine cr_cars X hk hH.1 hi5 dX3_leaveOneCar_39 ?_
  refine lv_iload_n hx hb dX3_leaveOneCar_40 rfl (lv_at hl 2 rfl) ?_
  refine cv_pCar X hI hk (vin_lt hi5) hH 2 (by decide) gfX3_84 dX3_leaveOneCar_41 (fun H locs hH => ?_)
  exact w3_leaveOneCar_44 X hI hk hH (lv_sub hl [] rfl) hf
set_option maxRecDepth 100000 in
set_option maxHeartbeats 4000000 in
theorem c3_leaveOneCar (l : Launch) {D : va_G} {Y : cYt} {ad : Nat → Nat} {μ : Nat → Nat → Int32} {k : Nat} (hk : k < 10) (hI : cInj ad) (sz : Nat) (x1 : Int32) (x2 : Int32) {t : (Nat → Int32)} (hf : f3_leaveOneCar_0 x1 x2 (μ k) = some t) : Met l yX3_leaveOneCar uX3_leaveOneCar rm3_leaveOneCar (va_Pc [.ref (ad (15 * k)), .int x1, .int x2] (fun U => U.heap.size = sz ∧ cB D Y ad μ U)) (va_Qv (fun (_ : Unit) => True) (fun _ t9 => cB D Y ad (s1 μ k t) t9) (cA ad sz)) 0 0 (cA ad sz) := by
  refine Met.ofW (cc := cX3_leaveOneCar) (maxL := 3) (ret := none) (by decide) rfl ?_
  intro p e s m args below meth c s₁ B hml hv
  obtain ⟨rfl, hsz, hP, hK⟩ := hv
  subst hsz
  have X : cX D Y p s m ([.ref (ad (15 * k)), .int x1, .int x2] : List Value).toArray meth c cX3_leaveOneCar 3 RX3 none := ⟨⟨B.exec, B.bytes, hml, findClass_of_methodNamed B.named, fun w h => atoms_spec (ws := uX3_leaveOneCar) B.pre w (List.mem_cons_of_mem _ h)⟩, B.returns, B.notSynchronized, hK⟩
  have hl := lv_entry ([.ref (ad (15 * k)), .int x1, .int x2]) (n := 3) (Nat.le_of_ble_eq_true rfl)
  rw [lg_entry_eq]
  generalize (lg_sl ([.ref (ad (15 * k)), .int x1, .int x2]) ++ List.replicate (3 - (lg_sl ([.ref (ad (15 * k)), .int x1, .int x2])).length) Slot.unset).toArray = ls at hl ⊢
  have hl : lv_has ls 3 [(0, .ref (ad (15 * k))), (1, .int x1), (2, .int x2)] := hl
  exact w3_leaveOneCar_0 X hI hk (cH_in k ⟨hP, va_S.rf⟩) (lv_sub hl [0, 1, 2] rfl) hf
set_option maxRecDepth 100000 in
set_option maxHeartbeats 4000000 in
theorem km3_leaveOneCar {p : Program} {l : Launch} {e : Env} {R : Room} {s : State} {m : MethodId} {args : Array Value} {below : List Frame} {meth : Method} {c : Code} {cc : ByteArray} {nL : Nat} {own : String} {ret : Option FieldType} {D : va_G} {Y : cYt} {ad : Nat → Nat} {μ : Nat → Nat → Int32} {H : Heap} {locs : List Loc} {cells slots : Nat} {Q : State → Prop} {pc : Nat} {ls : Array Slot} {rest : List Value} (X : cX D Y p s m args meth c cc nL own ret) {k : Nat} (hI : cInj ad) (hk : k < 10) (hH : cH D Y ad μ s H locs) (hls : ls.size = nL) {index : Nat} (hG : GoodIn gw (wsV own index RX3 yX3_leaveOneCar uX3_leaveOneCar)) (hR : rm3_leaveOneCar.frames + 1 ≤ R.frames ∧ 8 + (3 + 11) + rm3_leaveOneCar.locals ≤ R.locals) {x1 : Int32} {x2 : Int32} {t : (Nat → Int32)} (hf : f3_leaveOneCar_0 x1 x2 (μ k) = some t) (hrest : (rest.map fun v => v.category).sum ≤ 8) (hdg : decode cc pc = .ok (.invokevirtual index, 3)) (hc : cells ≤ R.cells ∧ slots ≤ R.slots) (kk : ∀ (H1 : Heap) (locs1 : List Loc), cH D Y ad (s1 μ k t) s H1 locs1 → W p l e R s m args below meth c H1 locs1 cells slots Q (F0 m (pc + 3) ls (rest))) : W p l e R s m args below meth c H locs cells slots Q (F0 m pc ls (.int x2 :: .int x1 :: .ref (ad (15 * k)) :: rest)) := by
  have hA : ∀ q, cA ad H.size q → cA ad s.heap.size q := fun q h => h.elim Or.inl (fun h => Or.inr (Nat.le_trans hH.2.1 h))
  refine va_callv (va_runV (As := [.int x1, .int x2]) (rest := rest) X.1 (c3_leaveOneCar l hk hI H.size x1 x2 hf) (cwV 2 X.1.2.2.2.2 hG rfl rfl rfl (by decide +kernel) hR) ⟨cBs_bl, va_recv X.2.2.2 hH.1 (ci := 3) (q0 := 15 * k) rfl (cw_ate (by omega) ((cw_st (r := 0) hk (by omega)).trans rfl)), fun U hU hW => ⟨rfl, by rw [hU], by rw [hU]; exact hH.1, va_K.moved hW.alike X.2.2.2⟩⟩ rfl rfl hls rfl (lv_room hrest) hdg hc) hH.2 (fun q _ h => hA q h) hA (fun u t9 H1 locs1 ht hvm hw hB hz1 hk1 hS => ?_)
  exact kk H1 locs1 ⟨by rw [← ht]; exact hB.1, hS⟩
set_option maxRecDepth 100000 in
set_option maxHeartbeats 4000000 in
theorem k3_leaveOneCar {p : Program} {l : Launch} {e : Env} {R : Room} {s : State} {m : MethodId} {args : Array Value} {below : List Frame} {meth : Method} {c : Code} {cc : ByteArray} {nL : Nat} {own : String} {ret : Option FieldType} {D : va_G} {Y : cYt} {ad : Nat → Nat} {μ : Nat → Nat → Int32} {H : Heap} {locs : List Loc} {cells slots : Nat} {Q : State → Prop} {pc : Nat} {ls : Array Slot} {rest : List Value} (X : cX D Y p s m args meth c cc nL own ret) {k : Nat} {v0 : Nat → Int32} (hI : cInj ad) (hk : k < 10) (hH : cH D Y ad (s1 μ k v0) s H locs) (hls : ls.size = nL) {index : Nat} (hG : GoodIn gw (wsV own index RX3 yX3_leaveOneCar uX3_leaveOneCar)) (hR : rm3_leaveOneCar.frames + 1 ≤ R.frames ∧ 8 + (3 + 11) + rm3_leaveOneCar.locals ≤ R.locals) {x1 : Int32} {x2 : Int32} {t : (Nat → Int32)} (hf : f3_leaveOneCar_0 x1 x2 v0 = some t) (hrest : (rest.map fun v => v.category).sum ≤ 8) (hdg : decode cc pc = .ok (.invokevirtual index, 3)) (hc : cells ≤ R.cells ∧ slots ≤ R.slots) (kk : ∀ (H1 : Heap) (locs1 : List Loc), cH D Y ad (s1 μ k t) s H1 locs1 → W p l e R s m args below meth c H1 locs1 cells slots Q (F0 m (pc + 3) ls (rest))) : W p l e R s m args below meth c H locs cells slots Q (F0 m pc ls (.int x2 :: .int x1 :: .ref (ad (15 * k)) :: rest)) := by
  have hf2 : f3_leaveOneCar_0 x1 x2 (s1 μ k v0 k) = some t := by rw [s1_k]; exact hf
  exact km3_leaveOneCar (μ := s1 μ k v0) X hI hk hH hls hG hR hf2 hrest hdg hc (fun H1 locs1 h => kk H1 locs1 (by rw [s1_s1] at h; exact h))
/-! OreRailway$State.isBefore(II)Z -/
def rm3_isBefore : Room := { frames := 0, cells := 0, slots := 0, locals := 0 }
def f3_isBefore_51 (v0 : Nat → Int32) (y0 : Int32) : Option (Int32) := gz y0 (some y0)
set_option maxRecDepth 100000 in
set_option maxHeartbeats 4000000 in
theorem w3_isBefore_51 {p : Program} {l : Launch} {e : Env} {s : State} {m : MethodId} {args : Array Value} {below : List Frame} {meth : Method} {c : Code} {D : va_G} {Y : cYt} {ad : Nat → Nat} {μ : Nat → Nat → Int32} {k : Nat} {v0 : Nat → Int32} (X : cX D Y p s m args meth c cX3_isBefore 4 RX3 (some .boolean)) (hk : k < 10) (hM : μ k = v0) (hP : va_P D vwCl (cwW Y ad μ) s.heap) {y0 : Int32} {t : Int32}  {ls : Array Slot} (hl : lv_has ls 4 []) (hf : f3_isBefore_51 v0 y0 = some t) : W p l e rm3_isBefore s m args below meth c s.heap [] 0 0 (MQ below (QcRead t) args s 0 0 (fun _ => False)) (F0 m 51 ls [.int y0]) := by
  obtain ⟨⟨hx, hb, hml, hown, hts⟩, hr, hlk, hK⟩ := id X
  replace hf : (gz y0 (some y0)) = some t := hf
  obtain ⟨hz, hf⟩ := gz_o hf
  obtain rfl := so_i hf
  exact rd_z hx hb hr hlk (nz_z hz) dX3_isBefore_51
def f3_isBefore_50 (v0 : Nat → Int32) : Option (Int32) := f3_isBefore_51 v0 0
set_option maxRecDepth 100000 in
set_option maxHeartbeats 4000000 in
theorem w3_isBefore_50 {p : Program} {l : Launch} {e : Env} {s : State} {m : MethodId} {args : Array Value} {below : List Frame} {meth : Method} {c : Code} {D : va_G} {Y : cYt} {ad : Nat → Nat} {μ : Nat → Nat → Int32} {k : Nat} {v0 : Nat → Int32} (X : cX D Y p s m args meth c cX3_isBefore 4 RX3 (some .boolean)) (hk : k < 10) (hM : μ k = v0) (hP : va_P D vwCl (cwW Y ad μ) s.heap) {t : Int32}  {ls : Array Slot} (hl : lv_has ls 4 []) (hf : f3_isBefore_50 v0  = some t) : W p l e rm3_isBefore s m args below meth c s.heap [] 0 0 (MQ below (QcRead t) args s 0 0 (fun _ => False)) (F0 m 50 ls []) := by
  obtain ⟨⟨hx, hb, hml, hown, hts⟩, hr, hlk, hK⟩ := id X
  replace hf : (f3_isBefore_51 v0 0) = some t := hf
  refine lv_iconst (v := 0) hx hb dX3_isBefore_50 (by decide) ?_
  exact w3_isBefore_51 X hk hM hP  (lv_sub hl [] rfl) hf
def f3_isBefore_46 (v0 : Nat → Int32) : Option (Int32) := f3_isBefore_51 v0 1
set_option maxRecDepth 100000 in
set_option maxHeartbeats 4000000 in
theorem w3_isBefore_46 {p : Program} {l : Launch} {e : Env} {s : State} {m : MethodId} {args : Array Value} {below : List Frame} {meth : Method} {c : Code} {D : va_G} {Y : cYt} {ad : Nat → Nat} {μ : Nat → Nat → Int32} {k : Nat} {v0 : Nat → Int32} (X : cX D Y p s m args meth c cX3_isBefore 4 RX3 (some .boolean)) (hk : k < 10) (hM : μ k = v0) (hP : va_P D vwCl (cwW Y ad μ) s.heap) {t : Int32}  {ls : Array Slot} (hl : lv_has ls 4 []) (hf : f3_isBefore_46 v0  = some t) : W p l e rm3_isBefore s m args below meth c s.heap [] 0 0 (MQ below (QcRead t) args s 0 0 (fun _ => False)) (F0 m 46 ls []) := by
  obtain ⟨⟨hx, hb, hml, hown, hts⟩, hr, hlk, hK⟩ := id X
  replace hf : (f3_isBefore_51 v0 1) = some t := hf
  refine lv_iconst (v := 1) hx hb dX3_isBefore_46 (by decide) ?_
  refine lv_goto (tgt := 51) hx hb dX3_isBefore_47 (by decide) ?_
  exact w3_isBefore_51 X hk hM hP  (lv_sub hl [] rfl) hf
def f3_isBefore_20 (v0 : Nat → Int32) (x1 : Int32) (x2 : Int32) (x3 : Int32) : Option (Int32) := gd x1 8 (if (v0 (90 + 9 * ((Int32.toNatClampNeg x1)) + 0)) = 1 then (if 0 < x3 then (f3_isBefore_46 v0) else (if x3 = 0 then (if x2 ≤ x1 then (f3_isBefore_50 v0) else (f3_isBefore_46 v0)) else (f3_isBefore_50 v0))) else (f3_isBefore_50 v0))
set_option maxRecDepth 100000 in
set_option maxHeartbeats 4000000 in
theorem w3_isBefore_20 {p : Program} {l : Launch} {e : Env} {s : State} {m : MethodId} {args : Array Value} {below : List Frame} {meth : Method} {c : Code} {D : va_G} {Y : cYt} {ad : Nat → Nat} {μ : Nat → Nat → Int32} {k : Nat} {v0 : Nat → Int32} (X : cX D Y p s m args meth c cX3_isBefore 4 RX3 (some .boolean)) (hk : k < 10) (hM : μ k = v0) (hP : va_P D vwCl (cwW Y ad μ) s.heap) {x1 : Int32} {x2 : Int32} {x3 : Int32} {t : Int32}  {ls : Array Slot} (hl : lv_has ls 4 [(0, .ref (ad (15 * k))), (1, .int x1), (2, .int x2), (3, .int x3)]) (hf : f3_isBefore_20 v0 x1 x2 x3 = some t) : W p l e rm3_isBefore s m args below meth c s.heap [] 0 0 (MQ below (QcRead t) args s 0 0 (fun _ => False)) (F0 m 20 ls []) := by
  obtain ⟨⟨hx, hb, hml, hown, hts⟩, hr, hlk, hK⟩ := id X
  replace hf : (gd x1 8 (if (v0 (90 + 9 * ((Int32.toNatClampNeg x1)) + 0)) = 1 then (if 0 < x3 then (f3_isBefore_46 v0) else (if x3 = 0 then (if x2 ≤ x1 then (f3_isBefore_50 v0) else (f3_isBefore_46 v0)) else (f3_isBefore_50 v0))) else (f3_isBefore_50 v0))) = some t := hf
  refine lv_aload_n hx hb dX3_isBefore_20 rfl (lv_at hl 0 rfl) ?_
  refine cr_gSt X hk hM hP (i := 4) (v := .ref (ad (15 * k + 5))) (by decide) gfX3_26 rfl dX3_isBefore_21 ?_
  refine lv_iload_n hx hb dX3_isBefore_24 rfl (lv_at hl 1 rfl) ?_
  obtain ⟨hi1, hf⟩ := gd_o hf
  refine cr_cars X hk hP hi1 dX3_isBefore_25 ?_
  refine cr_gCar X hk hM (j := (Int32.toNatClampNeg x1)) (vin_lt hi1) hP (i := 0) (v := .int (v0 (90 + 9 * ((Int32.toNatClampNeg x1)) + 0))) (by decide) gfX3_67 rfl dX3_isBefore_26 ?_
  refine lv_iconst (v := 1) hx hb dX3_isBefore_29 (by decide) ?_
  refine lv_icmp_ne (tgt := 50) hx hb dX3_isBefore_30 (by decide) (fun c2 => ?_) (fun c2 => ?_)
  · have hf := it_f c2 hf
    exact w3_isBefore_50 X hk hM hP  (lv_sub hl [] rfl) hf
  · have hf := it_t c2 hf
    refine lv_iload_n hx hb dX3_isBefore_33 rfl (lv_at hl 3 rfl) ?_
    refine lv_if_gt (tgt := 46) hx hb dX3_isBefore_34 (by decide) (fun c3 => ?_) (fun c3 => ?_)
    · have hf := it_t c3 hf
      exact w3_isBefore_46 X hk hM hP  (lv_sub hl [] rfl) hf
    · have hf := it_f c3 hf
      refine lv_iload_n hx hb dX3_isBefore_37 rfl (lv_at hl 3 rfl) ?_
      refine lv_if_ne (tgt := 50) hx hb dX3_isBefore_38 (by decide) (fun c4 => ?_) (fun c4 => ?_)
      · have hf := it_f c4 hf
        exact w3_isBefore_50 X hk hM hP  (lv_sub hl [] rfl) hf
      · have hf := it_t c4 hf
        refine lv_iload_n hx hb dX3_isBefore_41 rfl (lv_at hl 1 rfl) ?_
        refine lv_iload_n hx hb dX3_isBefore_42 rfl (lv_at hl 2 rfl) ?_
        refine lv_icmp_ge (tgt := 50) hx hb dX3_isBefore_43 (by decide) (fun c5 => ?_) (fun c5 => ?_)
        · have hf := it_t c5 hf
          exact w3_isBefore_50 X hk hM hP  (lv_sub hl [] rfl) hf
        · have hf := it_f c5 hf
          exact w3_isBefore_46 X hk hM hP  (lv_sub hl [] rfl) hf
def f3_isBefore_0 (v0 : Nat → Int32) (x1 : Int32) (x2 : Int32) : Option (Int32) := gd x1 8 (gd x2 8 (f3_isBefore_20 v0 x1 x2 ((v0 (90 + 9 * ((Int32.toNatClampNeg x1)) + 4)) - (v0 (90 + 9 * ((Int32.toNatClampNeg x2)) + 4)))))
set_option maxRecDepth 100000 in
set_option maxHeartbeats 4000000 in
theorem w3_isBefore_0 {p : Program} {l : Launch} {e : Env} {s : State} {m : MethodId} {args : Array Value} {below : List Frame} {meth : Method} {c : Code} {D : va_G} {Y : cYt} {ad : Nat → Nat} {μ : Nat → Nat → Int32} {k : Nat} {v0 : Nat → Int32} (X : cX D Y p s m args meth c cX3_isBefore 4 RX3 (some .boolean)) (hk : k < 10) (hM : μ k = v0) (hP : va_P D vwCl (cwW Y ad μ) s.heap) {x1 : Int32} {x2 : Int32} {t : Int32}  {ls : Array Slot} (hl : lv_has ls 4 [(0, .ref (ad (15 * k))), (1, .int x1), (2, .int x2)]) (hf : f3_isBefore_0 v0 x1 x2 = some t) : W p l e rm3_isBefore s m args below meth c s.heap [] 0 0 (MQ below (QcRead t) args s 0 0 (fun _ => False)) (F0 m 0 ls []) := by
  obtain ⟨⟨hx, hb, hml, hown, hts⟩, hr, hlk, hK⟩ := id X
  replace hf : (gd x1 8 (gd x2 8 (f3_isBefore_20 v0 x1 x2 ((v0 (90 + 9 * ((Int32.toNatClampNeg x1)) + 4)) - (v0 (90 + 9 * ((Int32.toNatClampNeg x2)) + 4)))))) = some t := hf
  refine lv_aload_n hx hb dX3_isBefore_0 rfl (lv_at hl 0 rfl) ?_
  refine cr_gSt X hk hM hP (i := 4) (v := .ref (ad (15 * k + 5))) (by decide) gfX3_26 rfl dX3_isBefore_1 ?_
  refine lv_iload_n hx hb dX3_isBefore_4 rfl (lv_at hl 1 rfl) ?_
  obtain ⟨hi1, hf⟩ := gd_o hf
  refine cr_cars X hk hP hi1 dX3_isBefore_5 ?_
  refine cr_gCar X hk hM (j := (Int32.toNatClampNeg x1)) (vin_lt hi1) hP (i := 4) (v := .int (v0 (90 + 9 * ((Int32.toNatClampNeg x1)) + 4))) (by decide) gfX3_120 rfl dX3_isBefore_6 ?_
  refine lv_aload_n hx hb dX3_isBefore_9 rfl (lv_at hl 0 rfl) ?_
  refine cr_gSt X hk hM hP (i := 4) (v := .ref (ad (15 * k + 5))) (by decide) gfX3_26 rfl dX3_isBefore_10 ?_
  refine lv_iload_n hx hb dX3_isBefore_13 rfl (lv_at hl 2 rfl) ?_
  obtain ⟨hi2, hf⟩ := gd_o hf
  refine cr_cars X hk hP hi2 dX3_isBefore_14 ?_
  refine cr_gCar X hk hM (j := (Int32.toNatClampNeg x2)) (vin_lt hi2) hP (i := 4) (v := .int (v0 (90 + 9 * ((Int32.toNatClampNeg x2)) + 4))) (by decide) gfX3_120 rfl dX3_isBefore_15 ?_
  refine lv_isub hx hb dX3_isBefore_18 ?_
  refine lv_istore_n (lv' := [(3, .int ((v0 (90 + 9 * ((Int32.toNatClampNeg x1)) + 4)) - (v0 (90 + 9 * ((Int32.toNatClampNeg x2)) + 4)))), (0, .ref (ad (15 * k))), (1, .int x1), (2, .int x2)]) hx hb dX3_isBefore_19 rfl hl (by decide) rfl (fun ls hl => ?_)
  exact w3_isBefore_20 X hk hM hP  (lv_sub hl [1, 2, 3, 0] rfl) hf
set_option maxRecDepth 100000 in
set_option maxHeartbeats 4000000 in
theorem c3_isBefore (l : Launch) {D : va_G} {Y : cYt} {ad : Nat → Nat} {μ : Nat → Nat → Int32} {k : Nat} (hk : k < 10) (x1 : Int32) (x2 : Int32) {t : Int32} (hf : f3_isBefore_0 (μ k) x1 x2 = some t) : Met l yX3_isBefore uX3_isBefore rm3_isBefore (va_Pc [.ref (ad (15 * k)), .int x1, .int x2] (cB D Y ad μ)) (QcRead t) 0 0 (fun _ => False) := by
  refine Met.ofW (cc := cX3_isBefore) (maxL := 4) (ret := (some .boolean)) (by decide) rfl ?_
  intro p e s m args below meth c s₁ B hml hv
  obtain ⟨rfl, hP, hK⟩ := hv
  have X : cX D Y p s m ([.ref (ad (15 * k)), .int x1, .int x2] : List Value).toArray meth c cX3_isBefore 4 RX3 (some .boolean) := ⟨⟨B.exec, B.bytes, hml, findClass_of_methodNamed B.named, fun w h => atoms_spec (ws := uX3_isBefore) B.pre w (List.mem_cons_of_mem _ h)⟩, B.returns, B.notSynchronized, hK⟩
  have hl := lv_entry ([.ref (ad (15 * k)), .int x1, .int x2]) (n := 4) (Nat.le_of_ble_eq_true rfl)
  rw [lg_entry_eq]
  generalize (lg_sl ([.ref (ad (15 * k)), .int x1, .int x2]) ++ List.replicate (4 - (lg_sl ([.ref (ad (15 * k)), .int x1, .int x2])).length) Slot.unset).toArray = ls at hl ⊢
  have hl : lv_has ls 4 [(0, .ref (ad (15 * k))), (1, .int x1), (2, .int x2)] := hl
  exact w3_isBefore_0 X hk rfl hP (lv_sub hl [0, 1, 2] rfl) hf
set_option maxRecDepth 100000 in
set_option maxHeartbeats 4000000 in
theorem k3_isBefore {p : Program} {l : Launch} {e : Env} {R : Room} {s : State} {m : MethodId} {args : Array Value} {below : List Frame} {meth : Method} {c : Code} {cc : ByteArray} {nL : Nat} {own : String} {ret : Option FieldType} {D : va_G} {Y : cYt} {ad : Nat → Nat} {μ : Nat → Nat → Int32} {H : Heap} {locs : List Loc} {cells slots : Nat} {Q : State → Prop} {pc : Nat} {ls : Array Slot} {rest : List Value} (X : cX D Y p s m args meth c cc nL own ret) {k : Nat} {v0 : Nat → Int32} (hk : k < 10) (hM : μ k = v0) (hP : va_P D vwCl (cwW Y ad μ) H) (hls : ls.size = nL) {index : Nat} (hG : GoodIn gw (wsV own index RX3 yX3_isBefore uX3_isBefore)) (hR : rm3_isBefore.frames + 1 ≤ R.frames ∧ 8 + (4 + 11) + rm3_isBefore.locals ≤ R.locals) {x1 : Int32} {x2 : Int32} {t : Int32} (hf : f3_isBefore_0 v0 x1 x2 = some t) (hrest : (rest.map fun v => v.category).sum ≤ 8) (hdg : decode cc pc = .ok (.invokevirtual index, 3)) (hc : cells ≤ R.cells ∧ slots ≤ R.slots) (kk : W p l e R s m args below meth c H locs cells slots Q (F0 m (pc + 3) ls (.int t :: rest))) : W p l e R s m args below meth c H locs cells slots Q (F0 m pc ls (.int x2 :: .int x1 :: .ref (ad (15 * k)) :: rest)) := by
  subst hM
  exact W.callR (W.runV (As := [.int x1, .int x2]) X.1 (c3_isBefore l hk x1 x2 hf) (cwV 2 X.1.2.2.2.2 hG rfl rfl rfl (by decide +kernel) hR) ⟨cB_bl, va_recv X.2.2.2 hP (ci := 3) (q0 := 15 * k) rfl (cw_ate (by omega) ((cw_st (r := 0) hk (by omega)).trans rfl)), fun U hU hW => ⟨rfl, by rw [hU]; exact hP, va_K.moved hW.alike X.2.2.2⟩⟩ rfl rfl hls rfl (lv_room hrest) hdg hc) kk
