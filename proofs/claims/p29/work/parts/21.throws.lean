def xn (k : Int32) : String := if k = 1 then "java/lang/IndexOutOfBoundsException" else if k = 2 then "java/lang/IllegalArgumentException" else "java/lang/IllegalStateException"
/-- what a throw needs of the launch's state: two statics of Throwable, the three texts, three castable pairs -/
def zx (A : Nat → Prop) (U : State) : Prop := (vx_Zq Bundle.tN "UNASSIGNED_STACK" Bundle.steD A U U.heap ∧ vx_Zq Bundle.tN "SUPPRESSED_SENTINEL" Bundle.listD A U U.heap) ∧ ((∃ a, vk_R RX4 202 "there is no such number" a U) ∧ (∃ a, vk_R RX4 209 "the argument is not allowed" a U) ∧ ∃ a, vk_R RX4 214 "this is not possible now" a U) ∧ va_Nw (.castable "java/lang/IndexOutOfBoundsException" "java/lang/IndexOutOfBoundsException") U ∧ va_Nw (.castable "java/lang/IllegalArgumentException" "java/lang/IllegalArgumentException") U ∧ va_Nw (.castable "java/lang/IllegalStateException" "java/lang/IllegalStateException") U ∧ va_Nw (.declares ⟨"java/lang/RuntimeException", "<init>", "(Ljava/lang/String;)V"⟩) U ∧ va_Nw (.declares ⟨"java/lang/Exception", "<init>", "(Ljava/lang/String;)V"⟩) U ∧ va_Nw (.declares ⟨"java/lang/Throwable", "<init>", "(Ljava/lang/String;)V"⟩) U
theorem vx_Zq.at {C n d : String} {A B : Nat → Prop} {s U : State} (h : vx_Zq C n d A s s.heap) (hW : s.WarmedH U.vm) (hq : ∀ a : Nat, a < s.heap.size → ¬ A a → U.heap[a]? = s.heap[a]?) (hAB : ∀ q, B q → A q) : vx_Zq C n d B U U.heap := vx_Zq.narrow (vx_Zq.kept (vx_Zq.moved (U := U) hW.alike h) hq) hAB
theorem zx_at {A B : Nat → Prop} {s U : State} (h : zx A s) (hW : s.WarmedH U.vm) (hq : ∀ a : Nat, a < s.heap.size → ¬ A a → U.heap[a]? = s.heap[a]?) (hAB : ∀ q, B q → A q) : zx B U := by
  obtain ⟨⟨h1, h2⟩, ⟨⟨a3, h3⟩, ⟨a4, h4⟩, a5, h5⟩, h6, h7, h8, h9, h10, h11⟩ := h
  exact ⟨⟨h1.at hW hq hAB, h2.at hW hq hAB⟩, ⟨⟨a3, h3.warm hW⟩, ⟨a4, h4.warm hW⟩, a5, h5.warm hW⟩, va_Nw.warmC hW h6, va_Nw.warmC hW h7, va_Nw.warmC hW h8, va_Nw.warmD hW h9, va_Nw.warmD hW h10, va_Nw.warmD hW h11⟩
theorem zx_call {A : Nat → Prop} {a : Array Value} {U : State} {g : JFrame} {mk : MethodId} (h : zx A U) : zx A (U.calling g mk a) := by
  obtain ⟨⟨h1, h2⟩, ⟨⟨a3, h3⟩, ⟨a4, h4⟩, a5, h5⟩, h6, h7, h8, h9, h10, h11⟩ := h
  exact ⟨⟨vx_Zq.moved (u := U) (U := U.calling g mk a) (Vm.Alike.refl U.vm) h1, vx_Zq.moved (u := U) (U := U.calling g mk a) (Vm.Alike.refl U.vm) h2⟩, ⟨⟨a3, vk_R.same (u := U) rfl h3⟩, ⟨a4, vk_R.same (u := U) rfl h4⟩, a5, vk_R.same (u := U) rfl h5⟩, va_Nw.same rfl (u := U) rfl h6, va_Nw.same rfl (u := U) rfl h7, va_Nw.same rfl (u := U) rfl h8, va_Nw.same rfl (u := U) rfl h9, va_Nw.same rfl (u := U) rfl h10, va_Nw.same rfl (u := U) rfl h11⟩
theorem gw_x1 : ∀ w ∈ (vx_atS RX4 204 "java/lang/IndexOutOfBoundsException" ["java/lang/RuntimeException", "java/lang/Exception"]).filter goodWord, w ∈ gw := fun w h => List.mem_filter.mpr ⟨(by decide +kernel : ∀ w ∈ (vx_atS RX4 204 "java/lang/IndexOutOfBoundsException" ["java/lang/RuntimeException", "java/lang/Exception"]).filter goodWord, w ∈ lw_tbl) w h, (List.mem_filter.mp h).2⟩
def rm4_requireIndex : Room := { frames := 6, cells := 1, slots := 6, locals := 90 }
theorem at4_requireIndex {s : State} {args : Array Value} (hts : ∀ w ∈ gw, w.before args s = true) (h : (Cond.castable "java/lang/IndexOutOfBoundsException" "java/lang/IndexOutOfBoundsException").before args s = true) (hd1 : (Cond.declares ⟨"java/lang/RuntimeException", "<init>", "(Ljava/lang/String;)V"⟩).before args s = true) (hd2 : (Cond.declares ⟨"java/lang/Exception", "<init>", "(Ljava/lang/String;)V"⟩).before args s = true) (hd3 : (Cond.declares ⟨"java/lang/Throwable", "<init>", "(Ljava/lang/String;)V"⟩).before args s = true) : ∀ w ∈ vx_atS RX4 204 "java/lang/IndexOutOfBoundsException" ["java/lang/RuntimeException", "java/lang/Exception"], w.before args s = true := by
  refine vx_hat (B := [Cond.castable "java/lang/IndexOutOfBoundsException" "java/lang/IndexOutOfBoundsException", Cond.declares ⟨"java/lang/RuntimeException", "<init>", "(Ljava/lang/String;)V"⟩, Cond.declares ⟨"java/lang/Exception", "<init>", "(Ljava/lang/String;)V"⟩, Cond.declares ⟨"java/lang/Throwable", "<init>", "(Ljava/lang/String;)V"⟩]) (fun w hw => hts w ?_) (by decide +kernel) (vx_c h (vx_c hd1 (vx_c hd2 (vx_c hd3 vx_n))))
  exact gw_x1 w hw
set_option maxRecDepth 100000 in
set_option maxHeartbeats 4000000 in
theorem c4_requireIndex (l : Launch) (hl0 : l.stackTraces = false) (x0 : Int32) (sz : Nat) : vx_Met l yX4_requireIndex uX4_requireIndex rm4_requireIndex (va_Pc [.int x0] (fun U => U.heap.size = sz ∧ zx (fun q => sz ≤ q) U)) (fun _ st oc t => oc = .returned none ∧ ¬ x0 = 0 ∧ t.heap = st.heap) (fun E st t => x0 = 0 ∧ E = "java/lang/IndexOutOfBoundsException" ∧ va_F (fun q => sz ≤ q) st t) 1 6 (fun q => sz ≤ q) := by
  refine vx_ofW (cc := cX4_requireIndex) (maxL := 1) (ret := none) (by decide) rfl ?_
  intro p e s m args below meth c s₁ B hml hx0 hv
  obtain ⟨rfl, hsz, hz⟩ := hv
  subst hsz
  have hx := B.exec
  have hb := B.bytes
  have hr := B.returns
  have hlk := B.notSynchronized
  have hown : s.vm.findClass RX4 = some m.cls := findClass_of_methodNamed B.named
  have hts : ∀ w ∈ gw, w.before #[Value.int x0] s = true := fun w h => atoms_spec (ws := uX4_requireIndex) B.pre w (List.mem_cons_of_mem _ h)
  have hS : va_S (fun q => s.heap.size ≤ q) s.heap s.heap [] := va_S.rf
  have hl := lv_entry ([.int x0]) (n := 1) (Nat.le_of_ble_eq_true rfl)
  rw [lg_entry_eq]
  generalize (lg_sl ([.int x0]) ++ List.replicate (1 - (lg_sl ([.int x0])).length) Slot.unset).toArray = ls at hl ⊢
  have hl : lv_has ls 1 [(0, .int x0)] := hl
  refine lv_iload_n hx hb dX4_requireIndex_0 rfl (lv_at hl 0 rfl) ?_
  refine lv_if_ne (tgt := 14) hx hb dX4_requireIndex_1 (by decide) (fun c1 => ?_) (fun c1 => ?_)
  · refine W.widen (k := 1) (n := 6) (Nat.zero_le _) (Nat.zero_le _) ?_
    exact vx_ret (W.vret hx hb hr (fun t ht hW => ⟨rfl, c1, ht⟩) (fun q h => nomatch h) dX4_requireIndex_14)
  · obtain ⟨⟨hU, hN⟩, ⟨⟨a9, h9⟩, -, -⟩, ⟨h6, -, -, h10, h11, h12⟩⟩ := hz
    exact vx_throwS hx hb hl0 hown (by decide +kernel) (by decide +kernel) (hts _ gclX4_200) (hts _ gi_java_lang_IndexOutOfBoundsException) h9 (at4_requireIndex hts (va_Nw.use rfl h6) (va_Nw.use rfl h10) (va_Nw.use rfl h11) (va_Nw.use rfl h12)) (by decide +kernel) hU hN hS (hl.1.trans hml.symm) dX4_requireIndex_4 dX4_requireIndex_7 dX4_requireIndex_8 dX4_requireIndex_10 dX4_requireIndex_13 (fun x h => (hx0 x h).elim) (Nat.le_of_ble_eq_true rfl) (Nat.le_of_ble_eq_true rfl) (Nat.le_of_ble_eq_true rfl) (Nat.le_of_ble_eq_true rfl) hlk (fun t ha h1 h2 => ⟨c1, rfl, h1, fun q hq _ => h2 q hq⟩) (fun q h => nomatch h) (Nat.le_of_ble_eq_true rfl) (Nat.le_of_ble_eq_true rfl)
theorem gw_x2 : ∀ w ∈ (vx_atS RX4 211 "java/lang/IllegalArgumentException" ["java/lang/RuntimeException", "java/lang/Exception"]).filter goodWord, w ∈ gw := fun w h => List.mem_filter.mpr ⟨(by decide +kernel : ∀ w ∈ (vx_atS RX4 211 "java/lang/IllegalArgumentException" ["java/lang/RuntimeException", "java/lang/Exception"]).filter goodWord, w ∈ lw_tbl) w h, (List.mem_filter.mp h).2⟩
def rm4_requireArgument : Room := { frames := 6, cells := 1, slots := 6, locals := 90 }
theorem at4_requireArgument {s : State} {args : Array Value} (hts : ∀ w ∈ gw, w.before args s = true) (h : (Cond.castable "java/lang/IllegalArgumentException" "java/lang/IllegalArgumentException").before args s = true) (hd1 : (Cond.declares ⟨"java/lang/RuntimeException", "<init>", "(Ljava/lang/String;)V"⟩).before args s = true) (hd2 : (Cond.declares ⟨"java/lang/Exception", "<init>", "(Ljava/lang/String;)V"⟩).before args s = true) (hd3 : (Cond.declares ⟨"java/lang/Throwable", "<init>", "(Ljava/lang/String;)V"⟩).before args s = true) : ∀ w ∈ vx_atS RX4 211 "java/lang/IllegalArgumentException" ["java/lang/RuntimeException", "java/lang/Exception"], w.before args s = true := by
  refine vx_hat (B := [Cond.castable "java/lang/IllegalArgumentException" "java/lang/IllegalArgumentException", Cond.declares ⟨"java/lang/RuntimeException", "<init>", "(Ljava/lang/String;)V"⟩, Cond.declares ⟨"java/lang/Exception", "<init>", "(Ljava/lang/String;)V"⟩, Cond.declares ⟨"java/lang/Throwable", "<init>", "(Ljava/lang/String;)V"⟩]) (fun w hw => hts w ?_) (by decide +kernel) (vx_c h (vx_c hd1 (vx_c hd2 (vx_c hd3 vx_n))))
  exact gw_x2 w hw
set_option maxRecDepth 100000 in
set_option maxHeartbeats 4000000 in
theorem c4_requireArgument (l : Launch) (hl0 : l.stackTraces = false) (x0 : Int32) (sz : Nat) : vx_Met l yX4_requireArgument uX4_requireArgument rm4_requireArgument (va_Pc [.int x0] (fun U => U.heap.size = sz ∧ zx (fun q => sz ≤ q) U)) (fun _ st oc t => oc = .returned none ∧ ¬ x0 = 0 ∧ t.heap = st.heap) (fun E st t => x0 = 0 ∧ E = "java/lang/IllegalArgumentException" ∧ va_F (fun q => sz ≤ q) st t) 1 6 (fun q => sz ≤ q) := by
  refine vx_ofW (cc := cX4_requireArgument) (maxL := 1) (ret := none) (by decide) rfl ?_
  intro p e s m args below meth c s₁ B hml hx0 hv
  obtain ⟨rfl, hsz, hz⟩ := hv
  subst hsz
  have hx := B.exec
  have hb := B.bytes
  have hr := B.returns
  have hlk := B.notSynchronized
  have hown : s.vm.findClass RX4 = some m.cls := findClass_of_methodNamed B.named
  have hts : ∀ w ∈ gw, w.before #[Value.int x0] s = true := fun w h => atoms_spec (ws := uX4_requireArgument) B.pre w (List.mem_cons_of_mem _ h)
  have hS : va_S (fun q => s.heap.size ≤ q) s.heap s.heap [] := va_S.rf
  have hl := lv_entry ([.int x0]) (n := 1) (Nat.le_of_ble_eq_true rfl)
  rw [lg_entry_eq]
  generalize (lg_sl ([.int x0]) ++ List.replicate (1 - (lg_sl ([.int x0])).length) Slot.unset).toArray = ls at hl ⊢
  have hl : lv_has ls 1 [(0, .int x0)] := hl
  refine lv_iload_n hx hb dX4_requireArgument_0 rfl (lv_at hl 0 rfl) ?_
  refine lv_if_ne (tgt := 14) hx hb dX4_requireArgument_1 (by decide) (fun c1 => ?_) (fun c1 => ?_)
  · refine W.widen (k := 1) (n := 6) (Nat.zero_le _) (Nat.zero_le _) ?_
    exact vx_ret (W.vret hx hb hr (fun t ht hW => ⟨rfl, c1, ht⟩) (fun q h => nomatch h) dX4_requireArgument_14)
  · obtain ⟨⟨hU, hN⟩, ⟨-, ⟨a9, h9⟩, -⟩, ⟨-, h6, -, h10, h11, h12⟩⟩ := hz
    exact vx_throwS hx hb hl0 hown (by decide +kernel) (by decide +kernel) (hts _ gclX4_207) (hts _ gi_java_lang_IllegalArgumentException) h9 (at4_requireArgument hts (va_Nw.use rfl h6) (va_Nw.use rfl h10) (va_Nw.use rfl h11) (va_Nw.use rfl h12)) (by decide +kernel) hU hN hS (hl.1.trans hml.symm) dX4_requireArgument_4 dX4_requireArgument_7 dX4_requireArgument_8 dX4_requireArgument_10 dX4_requireArgument_13 (fun x h => (hx0 x h).elim) (Nat.le_of_ble_eq_true rfl) (Nat.le_of_ble_eq_true rfl) (Nat.le_of_ble_eq_true rfl) (Nat.le_of_ble_eq_true rfl) hlk (fun t ha h1 h2 => ⟨c1, rfl, h1, fun q hq _ => h2 q hq⟩) (fun q h => nomatch h) (Nat.le_of_ble_eq_true rfl) (Nat.le_of_ble_eq_true rfl)
theorem gw_x3 : ∀ w ∈ (vx_atS RX4 216 "java/lang/IllegalStateException" ["java/lang/RuntimeException", "java/lang/Exception"]).filter goodWord, w ∈ gw := fun w h => List.mem_filter.mpr ⟨(by decide +kernel : ∀ w ∈ (vx_atS RX4 216 "java/lang/IllegalStateException" ["java/lang/RuntimeException", "java/lang/Exception"]).filter goodWord, w ∈ lw_tbl) w h, (List.mem_filter.mp h).2⟩
def rm4_requireState : Room := { frames := 6, cells := 1, slots := 6, locals := 90 }
theorem at4_requireState {s : State} {args : Array Value} (hts : ∀ w ∈ gw, w.before args s = true) (h : (Cond.castable "java/lang/IllegalStateException" "java/lang/IllegalStateException").before args s = true) (hd1 : (Cond.declares ⟨"java/lang/RuntimeException", "<init>", "(Ljava/lang/String;)V"⟩).before args s = true) (hd2 : (Cond.declares ⟨"java/lang/Exception", "<init>", "(Ljava/lang/String;)V"⟩).before args s = true) (hd3 : (Cond.declares ⟨"java/lang/Throwable", "<init>", "(Ljava/lang/String;)V"⟩).before args s = true) : ∀ w ∈ vx_atS RX4 216 "java/lang/IllegalStateException" ["java/lang/RuntimeException", "java/lang/Exception"], w.before args s = true := by
  refine vx_hat (B := [Cond.castable "java/lang/IllegalStateException" "java/lang/IllegalStateException", Cond.declares ⟨"java/lang/RuntimeException", "<init>", "(Ljava/lang/String;)V"⟩, Cond.declares ⟨"java/lang/Exception", "<init>", "(Ljava/lang/String;)V"⟩, Cond.declares ⟨"java/lang/Throwable", "<init>", "(Ljava/lang/String;)V"⟩]) (fun w hw => hts w ?_) (by decide +kernel) (vx_c h (vx_c hd1 (vx_c hd2 (vx_c hd3 vx_n))))
  exact gw_x3 w hw
set_option maxRecDepth 100000 in
set_option maxHeartbeats 4000000 in
theorem c4_requireState (l : Launch) (hl0 : l.stackTraces = false) (x0 : Int32) (sz : Nat) : vx_Met l yX4_requireState uX4_requireState rm4_requireState (va_Pc [.int x0] (fun U => U.heap.size = sz ∧ zx (fun q => sz ≤ q) U)) (fun _ st oc t => oc = .returned none ∧ ¬ x0 = 0 ∧ t.heap = st.heap) (fun E st t => x0 = 0 ∧ E = "java/lang/IllegalStateException" ∧ va_F (fun q => sz ≤ q) st t) 1 6 (fun q => sz ≤ q) := by
  refine vx_ofW (cc := cX4_requireState) (maxL := 1) (ret := none) (by decide) rfl ?_
  intro p e s m args below meth c s₁ B hml hx0 hv
  obtain ⟨rfl, hsz, hz⟩ := hv
  subst hsz
  have hx := B.exec
  have hb := B.bytes
  have hr := B.returns
  have hlk := B.notSynchronized
  have hown : s.vm.findClass RX4 = some m.cls := findClass_of_methodNamed B.named
  have hts : ∀ w ∈ gw, w.before #[Value.int x0] s = true := fun w h => atoms_spec (ws := uX4_requireState) B.pre w (List.mem_cons_of_mem _ h)
  have hS : va_S (fun q => s.heap.size ≤ q) s.heap s.heap [] := va_S.rf
  have hl := lv_entry ([.int x0]) (n := 1) (Nat.le_of_ble_eq_true rfl)
  rw [lg_entry_eq]
  generalize (lg_sl ([.int x0]) ++ List.replicate (1 - (lg_sl ([.int x0])).length) Slot.unset).toArray = ls at hl ⊢
  have hl : lv_has ls 1 [(0, .int x0)] := hl
  refine lv_iload_n hx hb dX4_requireState_0 rfl (lv_at hl 0 rfl) ?_
  refine lv_if_ne (tgt := 14) hx hb dX4_requireState_1 (by decide) (fun c1 => ?_) (fun c1 => ?_)
  · refine W.widen (k := 1) (n := 6) (Nat.zero_le _) (Nat.zero_le _) ?_
    exact vx_ret (W.vret hx hb hr (fun t ht hW => ⟨rfl, c1, ht⟩) (fun q h => nomatch h) dX4_requireState_14)
  · obtain ⟨⟨hU, hN⟩, ⟨-, -, a9, h9⟩, ⟨-, -, h6, h10, h11, h12⟩⟩ := hz
    exact vx_throwS hx hb hl0 hown (by decide +kernel) (by decide +kernel) (hts _ gclX4_212) (hts _ gi_java_lang_IllegalStateException) h9 (at4_requireState hts (va_Nw.use rfl h6) (va_Nw.use rfl h10) (va_Nw.use rfl h11) (va_Nw.use rfl h12)) (by decide +kernel) hU hN hS (hl.1.trans hml.symm) dX4_requireState_4 dX4_requireState_7 dX4_requireState_8 dX4_requireState_10 dX4_requireState_13 (fun x h => (hx0 x h).elim) (Nat.le_of_ble_eq_true rfl) (Nat.le_of_ble_eq_true rfl) (Nat.le_of_ble_eq_true rfl) (Nat.le_of_ble_eq_true rfl) hlk (fun t ha h1 h2 => ⟨c1, rfl, h1, fun q hq _ => h2 q hq⟩) (fun q h => nomatch h) (Nat.le_of_ble_eq_true rfl) (Nat.le_of_ble_eq_true rfl)
def QcReadF (r : UInt32) : Array Value → State → Outcome → State → Prop := fun _ st o t => o = .returned (some (.float r)) ∧ t.heap = st.heap
theorem rd_f {p : Program} {l : Launch} {e : Env} {R : Room} {s : State} {m : MethodId} {args : Array Value} {below : List Frame} {meth : Method} {c : Code} {cc : ByteArray} {v : UInt32} {pc : Nat} {ls : Array Slot} (hx : p.tables.exec = Jvm.exec) (hb : c.code = cc) (hr : meth.sig.returnType = some .float) (hlk : meth.locks = false) (hdg : decode cc pc = .ok (.freturn, 1)) : W p l e R s m args below meth c s.heap [] 0 0 (MQ below (QcReadF v) args s 0 0 (fun _ => False)) (F0 m pc ls [.float v]) := W.fret (v := v) hx hb hr (fun t ht _ => ⟨rfl, ht⟩) (fun q h => nomatch h) hdg
theorem rq_1 {p : Program} {l : Launch} {e : Env} {R : Room} {s : State} {m : MethodId} {args : Array Value} {below : List Frame} {meth : Method} {c : Code} {cc : ByteArray} {nL : Nat} {ret : Option FieldType} {D : va_G} {Y : cYt} {ad : Nat → Nat} {μ : Nat → Nat → Int32} {H : Heap} {locs : List Loc} {cells slots : Nat} {pc : Nat} {ls : Array Slot} {Qc : Array Value → State → Outcome → State → Prop} {mc ms : Nat} {kx : Int32} {μ' : Nat → Nat → Int32} (X : cX D Y p s m args meth c cc nL RX4 ret) (hl0 : l.stackTraces = false) (hZ : c.exceptionTable.toList = [] ∧ zx (cA ad s.heap.size) s) (hH : cH D Y ad μ s H locs) (hls : ls.size = nL) {index : Nat} (hG : GoodIn gw (va_wsS RX4 index yX4_requireIndex uX4_requireIndex)) (hR : rm4_requireIndex.frames + 1 ≤ R.frames ∧ 8 + (1 + 11) + rm4_requireIndex.locals ≤ R.locals) {x : Int32} (hdg : decode cc pc = .ok (.invokestatic index, 3)) (hc : cells + 1 ≤ R.cells ∧ slots + 6 ≤ R.slots) (hm : cells + 1 ≤ mc ∧ slots + 6 ≤ ms)
    (hkx : x = 0 → kx = 1 ∧ μ' = μ) (kk : ¬ x = 0 → W p l e R s m args below meth c H locs (cells + 1) (slots + 6) (vx_MQ below Qc (vx_X (fun (_ : Unit) => ¬ kx = 0) (fun E _ t9 => E = xn kx ∧ cB D Y ad μ' t9) (cA ad s.heap.size)) args s mc ms (cA ad s.heap.size)) (F0 m (pc + 3) ls [])) :
    W p l e R s m args below meth c H locs cells slots (vx_MQ below Qc (vx_X (fun (_ : Unit) => ¬ kx = 0) (fun E _ t9 => E = xn kx ∧ cB D Y ad μ' t9) (cA ad s.heap.size)) args s mc ms (cA ad s.heap.size)) (F0 m pc ls [.int x]) := by
  have hr := vx_runS (As := [.int x]) (rest := []) (l := l) (e := e) (below := below) (meth := meth) X.1 (c4_requireIndex l hl0 x H.size) (va_cwS 1 X.1.2.2.2.2 hG rfl rfl rfl (by decide +kernel) hR) ⟨fun a U g mk h => ⟨h.1, h.2.1, zx_call h.2.2⟩, fun U hU hW => ⟨rfl, by rw [hU], zx_at hZ.2 hW (by rw [hU]; exact hH.2.2.1) (fun q h => Or.inr (Nat.le_trans hH.2.1 h))⟩⟩ (g := F0 m pc ls [.int x]) (locs := locs) rfl rfl hls rfl (lv_room (Nat.le_of_ble_eq_true rfl)) hdg hc
  intro T hT X9
  rcases hr T hT X9 with ⟨v, st₀, t, T', L, h0, X', hL, e1, e2, ⟨hv, hx, hh⟩, st⟩ | ⟨q, st₀, t, T', L, E, ce, h0, X', hL, e1, e2, ⟨hx, hE, hF⟩, hce, hcv, hcl, st⟩
  · cases hv
    obtain ⟨t2, a1, b1⟩ := kk hx T' (by rw [e1, hh, h0]) (Stand.forget X' (fun q h => Nat.le_trans hH.2.1 (hL q h)))
    exact ⟨t2, st t2 a1, b1⟩
  · obtain ⟨hk, hμ⟩ := hkx hx
    subst hμ
    have hkeep : ∀ q : Nat, q < H.size → T'.heap[q]? = H[q]? := fun q hq => by
      rw [e1, hF.2 q (by rw [h0]; exact hq) (by omega), h0]
    have hz : H.size ≤ T'.heap.size := by rw [e1, ← h0]; exact hF.1
    have hP' : va_P D vwCl (cwW Y ad μ') T'.heap := va_P.kept hH.1 (fun k q hk => hkeep q.1 (va_at.lt (hH.1 k q hk)))
    have hS' : va_S (cA ad s.heap.size) s.heap T'.heap locs := ⟨Nat.le_trans hH.2.1 hz, fun q h1 h2 => by rw [hkeep q (Nat.lt_of_lt_of_le h1 hH.2.1)]; exact hH.2.2.1 q h1 h2, hH.2.2.2⟩
    have hcell : T'.heap[q]? = some ce := by rw [e1]; exact hce
    obtain ⟨t2, a1, b1⟩ := (vx_out (args := args) (Qc := Qc) (E := E) (mc := mc) (ms := ms) (free := cA ad s.heap.size) (XC := vx_X (fun (_ : Unit) => ¬ kx = 0) (fun E _ t9 => E = xn kx ∧ cB D Y ad μ' t9) (cA ad s.heap.size)) (fun x hx => by rw [hZ.1] at hx; cases hx) X.2.2.1 hcell hcv hcl (fun t3 ht ha => ⟨(), by rw [hk]; decide, ⟨by rw [hk, hE]; decide, by rw [ht]; exact hP', va_K.moved ha X.2.2.2⟩, hS'.F ht⟩) hH.2.2.2 hm.1 hm.2 : vx_W p l e R s m args below meth c T'.heap locs (cells + 1) (slots + 6) _ (F0 m pc ls []) q) T' rfl (Stand.forget X' (fun q h => Nat.le_trans hH.2.1 (hL q h)))
    exact ⟨t2, st.trans a1, b1⟩
theorem rq_2 {p : Program} {l : Launch} {e : Env} {R : Room} {s : State} {m : MethodId} {args : Array Value} {below : List Frame} {meth : Method} {c : Code} {cc : ByteArray} {nL : Nat} {ret : Option FieldType} {D : va_G} {Y : cYt} {ad : Nat → Nat} {μ : Nat → Nat → Int32} {H : Heap} {locs : List Loc} {cells slots : Nat} {pc : Nat} {ls : Array Slot} {Qc : Array Value → State → Outcome → State → Prop} {mc ms : Nat} {kx : Int32} {μ' : Nat → Nat → Int32} (X : cX D Y p s m args meth c cc nL RX4 ret) (hl0 : l.stackTraces = false) (hZ : c.exceptionTable.toList = [] ∧ zx (cA ad s.heap.size) s) (hH : cH D Y ad μ s H locs) (hls : ls.size = nL) {index : Nat} (hG : GoodIn gw (va_wsS RX4 index yX4_requireArgument uX4_requireArgument)) (hR : rm4_requireArgument.frames + 1 ≤ R.frames ∧ 8 + (1 + 11) + rm4_requireArgument.locals ≤ R.locals) {x : Int32} (hdg : decode cc pc = .ok (.invokestatic index, 3)) (hc : cells + 1 ≤ R.cells ∧ slots + 6 ≤ R.slots) (hm : cells + 1 ≤ mc ∧ slots + 6 ≤ ms)
    (hkx : x = 0 → kx = 2 ∧ μ' = μ) (kk : ¬ x = 0 → W p l e R s m args below meth c H locs (cells + 1) (slots + 6) (vx_MQ below Qc (vx_X (fun (_ : Unit) => ¬ kx = 0) (fun E _ t9 => E = xn kx ∧ cB D Y ad μ' t9) (cA ad s.heap.size)) args s mc ms (cA ad s.heap.size)) (F0 m (pc + 3) ls [])) :
    W p l e R s m args below meth c H locs cells slots (vx_MQ below Qc (vx_X (fun (_ : Unit) => ¬ kx = 0) (fun E _ t9 => E = xn kx ∧ cB D Y ad μ' t9) (cA ad s.heap.size)) args s mc ms (cA ad s.heap.size)) (F0 m pc ls [.int x]) := by
  have hr := vx_runS (As := [.int x]) (rest := []) (l := l) (e := e) (below := below) (meth := meth) X.1 (c4_requireArgument l hl0 x H.size) (va_cwS 1 X.1.2.2.2.2 hG rfl rfl rfl (by decide +kernel) hR) ⟨fun a U g mk h => ⟨h.1, h.2.1, zx_call h.2.2⟩, fun U hU hW => ⟨rfl, by rw [hU], zx_at hZ.2 hW (by rw [hU]; exact hH.2.2.1) (fun q h => Or.inr (Nat.le_trans hH.2.1 h))⟩⟩ (g := F0 m pc ls [.int x]) (locs := locs) rfl rfl hls rfl (lv_room (Nat.le_of_ble_eq_true rfl)) hdg hc
  intro T hT X9
  rcases hr T hT X9 with ⟨v, st₀, t, T', L, h0, X', hL, e1, e2, ⟨hv, hx, hh⟩, st⟩ | ⟨q, st₀, t, T', L, E, ce, h0, X', hL, e1, e2, ⟨hx, hE, hF⟩, hce, hcv, hcl, st⟩
  · cases hv
    obtain ⟨t2, a1, b1⟩ := kk hx T' (by rw [e1, hh, h0]) (Stand.forget X' (fun q h => Nat.le_trans hH.2.1 (hL q h)))
    exact ⟨t2, st t2 a1, b1⟩
  · obtain ⟨hk, hμ⟩ := hkx hx
    subst hμ
    have hkeep : ∀ q : Nat, q < H.size → T'.heap[q]? = H[q]? := fun q hq => by
      rw [e1, hF.2 q (by rw [h0]; exact hq) (by omega), h0]
    have hz : H.size ≤ T'.heap.size := by rw [e1, ← h0]; exact hF.1
    have hP' : va_P D vwCl (cwW Y ad μ') T'.heap := va_P.kept hH.1 (fun k q hk => hkeep q.1 (va_at.lt (hH.1 k q hk)))
    have hS' : va_S (cA ad s.heap.size) s.heap T'.heap locs := ⟨Nat.le_trans hH.2.1 hz, fun q h1 h2 => by rw [hkeep q (Nat.lt_of_lt_of_le h1 hH.2.1)]; exact hH.2.2.1 q h1 h2, hH.2.2.2⟩
    have hcell : T'.heap[q]? = some ce := by rw [e1]; exact hce
    obtain ⟨t2, a1, b1⟩ := (vx_out (args := args) (Qc := Qc) (E := E) (mc := mc) (ms := ms) (free := cA ad s.heap.size) (XC := vx_X (fun (_ : Unit) => ¬ kx = 0) (fun E _ t9 => E = xn kx ∧ cB D Y ad μ' t9) (cA ad s.heap.size)) (fun x hx => by rw [hZ.1] at hx; cases hx) X.2.2.1 hcell hcv hcl (fun t3 ht ha => ⟨(), by rw [hk]; decide, ⟨by rw [hk, hE]; decide, by rw [ht]; exact hP', va_K.moved ha X.2.2.2⟩, hS'.F ht⟩) hH.2.2.2 hm.1 hm.2 : vx_W p l e R s m args below meth c T'.heap locs (cells + 1) (slots + 6) _ (F0 m pc ls []) q) T' rfl (Stand.forget X' (fun q h => Nat.le_trans hH.2.1 (hL q h)))
    exact ⟨t2, st.trans a1, b1⟩
theorem rq_3 {p : Program} {l : Launch} {e : Env} {R : Room} {s : State} {m : MethodId} {args : Array Value} {below : List Frame} {meth : Method} {c : Code} {cc : ByteArray} {nL : Nat} {ret : Option FieldType} {D : va_G} {Y : cYt} {ad : Nat → Nat} {μ : Nat → Nat → Int32} {H : Heap} {locs : List Loc} {cells slots : Nat} {pc : Nat} {ls : Array Slot} {Qc : Array Value → State → Outcome → State → Prop} {mc ms : Nat} {kx : Int32} {μ' : Nat → Nat → Int32} (X : cX D Y p s m args meth c cc nL RX4 ret) (hl0 : l.stackTraces = false) (hZ : c.exceptionTable.toList = [] ∧ zx (cA ad s.heap.size) s) (hH : cH D Y ad μ s H locs) (hls : ls.size = nL) {index : Nat} (hG : GoodIn gw (va_wsS RX4 index yX4_requireState uX4_requireState)) (hR : rm4_requireState.frames + 1 ≤ R.frames ∧ 8 + (1 + 11) + rm4_requireState.locals ≤ R.locals) {x : Int32} (hdg : decode cc pc = .ok (.invokestatic index, 3)) (hc : cells + 1 ≤ R.cells ∧ slots + 6 ≤ R.slots) (hm : cells + 1 ≤ mc ∧ slots + 6 ≤ ms)
    (hkx : x = 0 → kx = 3 ∧ μ' = μ) (kk : ¬ x = 0 → W p l e R s m args below meth c H locs (cells + 1) (slots + 6) (vx_MQ below Qc (vx_X (fun (_ : Unit) => ¬ kx = 0) (fun E _ t9 => E = xn kx ∧ cB D Y ad μ' t9) (cA ad s.heap.size)) args s mc ms (cA ad s.heap.size)) (F0 m (pc + 3) ls [])) :
    W p l e R s m args below meth c H locs cells slots (vx_MQ below Qc (vx_X (fun (_ : Unit) => ¬ kx = 0) (fun E _ t9 => E = xn kx ∧ cB D Y ad μ' t9) (cA ad s.heap.size)) args s mc ms (cA ad s.heap.size)) (F0 m pc ls [.int x]) := by
  have hr := vx_runS (As := [.int x]) (rest := []) (l := l) (e := e) (below := below) (meth := meth) X.1 (c4_requireState l hl0 x H.size) (va_cwS 1 X.1.2.2.2.2 hG rfl rfl rfl (by decide +kernel) hR) ⟨fun a U g mk h => ⟨h.1, h.2.1, zx_call h.2.2⟩, fun U hU hW => ⟨rfl, by rw [hU], zx_at hZ.2 hW (by rw [hU]; exact hH.2.2.1) (fun q h => Or.inr (Nat.le_trans hH.2.1 h))⟩⟩ (g := F0 m pc ls [.int x]) (locs := locs) rfl rfl hls rfl (lv_room (Nat.le_of_ble_eq_true rfl)) hdg hc
  intro T hT X9
  rcases hr T hT X9 with ⟨v, st₀, t, T', L, h0, X', hL, e1, e2, ⟨hv, hx, hh⟩, st⟩ | ⟨q, st₀, t, T', L, E, ce, h0, X', hL, e1, e2, ⟨hx, hE, hF⟩, hce, hcv, hcl, st⟩
  · cases hv
    obtain ⟨t2, a1, b1⟩ := kk hx T' (by rw [e1, hh, h0]) (Stand.forget X' (fun q h => Nat.le_trans hH.2.1 (hL q h)))
    exact ⟨t2, st t2 a1, b1⟩
  · obtain ⟨hk, hμ⟩ := hkx hx
    subst hμ
    have hkeep : ∀ q : Nat, q < H.size → T'.heap[q]? = H[q]? := fun q hq => by
      rw [e1, hF.2 q (by rw [h0]; exact hq) (by omega), h0]
    have hz : H.size ≤ T'.heap.size := by rw [e1, ← h0]; exact hF.1
    have hP' : va_P D vwCl (cwW Y ad μ') T'.heap := va_P.kept hH.1 (fun k q hk => hkeep q.1 (va_at.lt (hH.1 k q hk)))
    have hS' : va_S (cA ad s.heap.size) s.heap T'.heap locs := ⟨Nat.le_trans hH.2.1 hz, fun q h1 h2 => by rw [hkeep q (Nat.lt_of_lt_of_le h1 hH.2.1)]; exact hH.2.2.1 q h1 h2, hH.2.2.2⟩
    have hcell : T'.heap[q]? = some ce := by rw [e1]; exact hce
    obtain ⟨t2, a1, b1⟩ := (vx_out (args := args) (Qc := Qc) (E := E) (mc := mc) (ms := ms) (free := cA ad s.heap.size) (XC := vx_X (fun (_ : Unit) => ¬ kx = 0) (fun E _ t9 => E = xn kx ∧ cB D Y ad μ' t9) (cA ad s.heap.size)) (fun x hx => by rw [hZ.1] at hx; cases hx) X.2.2.1 hcell hcv hcl (fun t3 ht ha => ⟨(), by rw [hk]; decide, ⟨by rw [hk, hE]; decide, by rw [ht]; exact hP', va_K.moved ha X.2.2.2⟩, hS'.F ht⟩) hH.2.2.2 hm.1 hm.2 : vx_W p l e R s m args below meth c T'.heap locs (cells + 1) (slots + 6) _ (F0 m pc ls []) q) T' rfl (Stand.forget X' (fun q h => Nat.le_trans hH.2.1 (hL q h)))
    exact ⟨t2, st.trans a1, b1⟩
theorem cx_iw {p : Program} {l : Launch} {e : Env} {R : Room} {s : State} {m : MethodId} {args : Array Value} {below : List Frame} {meth : Method} {c : Code} {cc : ByteArray} {nL : Nat} {ret : Option FieldType} {D : va_G} {Y : cYt} {ad : Nat → Nat} {μ : Nat → Nat → Int32} {H : Heap} {locs : List Loc} {cells slots : Nat} {pc : Nat} {ls : Array Slot} (X : cX D Y p s m args meth c cc nL RX4 ret) (hH : cH D Y ad μ s H locs) {v : Int32} {kx : Int32} {XC : String → State → State → Prop} {mc ms : Nat} (hr : ret = some .int) (hk0 : kx = 0) (h1 : cells ≤ mc) (h2 : slots ≤ ms) (hdg : decode cc pc = .ok (.ireturn, 1)) : W p l e R s m args below meth c H locs cells slots (vx_MQ below (va_Qi (fun (r9 : Int32) (_ : Unit) => r9 = v ∧ kx = 0) (fun _ t => cB D Y ad μ t) (cA ad s.heap.size)) XC args s mc ms (cA ad s.heap.size)) (F0 m pc ls [.int v]) := W.widen (k := mc) (n := ms) h1 h2 (vx_ret (W.iret (v := v) X.1.1 X.1.2.1 (X.2.1.trans hr) (fun t ht hW => ⟨⟨v, (), rfl, ⟨rfl, hk0⟩, by rw [ht]; exact hH.1, va_K.moved hW.alike X.2.2.2⟩, hH.2.F ht⟩) hH.2.2.2 hdg X.2.2.1))
theorem cx_zw {p : Program} {l : Launch} {e : Env} {R : Room} {s : State} {m : MethodId} {args : Array Value} {below : List Frame} {meth : Method} {c : Code} {cc : ByteArray} {nL : Nat} {ret : Option FieldType} {D : va_G} {Y : cYt} {ad : Nat → Nat} {μ : Nat → Nat → Int32} {H : Heap} {locs : List Loc} {cells slots : Nat} {pc : Nat} {ls : Array Slot} (X : cX D Y p s m args meth c cc nL RX4 ret) (hH : cH D Y ad μ s H locs) {v : Int32} {kx : Int32} {XC : String → State → State → Prop} {mc ms : Nat} {ty : FieldType} (hr : ret = some ty) (hn : narrow ty (.int v) = .int v) (hk0 : kx = 0) (h1 : cells ≤ mc) (h2 : slots ≤ ms) (hdg : decode cc pc = .ok (.ireturn, 1)) : W p l e R s m args below meth c H locs cells slots (vx_MQ below (va_Qi (fun (r9 : Int32) (_ : Unit) => r9 = v ∧ kx = 0) (fun _ t => cB D Y ad μ t) (cA ad s.heap.size)) XC args s mc ms (cA ad s.heap.size)) (F0 m pc ls [.int v]) := W.widen (k := mc) (n := ms) h1 h2 (vx_ret (W.zret (v := v) X.1.1 X.1.2.1 (X.2.1.trans hr) hn (fun t ht hW => ⟨⟨v, (), rfl, ⟨rfl, hk0⟩, by rw [ht]; exact hH.1, va_K.moved hW.alike X.2.2.2⟩, hH.2.F ht⟩) hH.2.2.2 hdg X.2.2.1))
theorem cx_fw {p : Program} {l : Launch} {e : Env} {R : Room} {s : State} {m : MethodId} {args : Array Value} {below : List Frame} {meth : Method} {c : Code} {cc : ByteArray} {nL : Nat} {ret : Option FieldType} {D : va_G} {Y : cYt} {ad : Nat → Nat} {μ : Nat → Nat → Int32} {H : Heap} {locs : List Loc} {cells slots : Nat} {pc : Nat} {ls : Array Slot} (X : cX D Y p s m args meth c cc nL RX4 ret) (hH : cH D Y ad μ s H locs) {v : UInt32} {kx : Int32} {XC : String → State → State → Prop} {mc ms : Nat} (hr : ret = some .float) (hk0 : kx = 0) (h1 : cells ≤ mc) (h2 : slots ≤ ms) (hdg : decode cc pc = .ok (.freturn, 1)) : W p l e R s m args below meth c H locs cells slots (vx_MQ below (va_Qf (fun (r9 : UInt32) (_ : Unit) => r9 = v ∧ kx = 0) (fun _ t => cB D Y ad μ t) (cA ad s.heap.size)) XC args s mc ms (cA ad s.heap.size)) (F0 m pc ls [.float v]) := W.widen (k := mc) (n := ms) h1 h2 (vx_ret (W.fret (v := v) X.1.1 X.1.2.1 (X.2.1.trans hr) (fun t ht hW => ⟨⟨v, (), rfl, ⟨rfl, hk0⟩, by rw [ht]; exact hH.1, va_K.moved hW.alike X.2.2.2⟩, hH.2.F ht⟩) hH.2.2.2 hdg X.2.2.1))
