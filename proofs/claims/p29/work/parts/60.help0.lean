/-! p29: what the law's own methods over one railway stand on -/
def zn (U : State) : Prop := va_Nc "java/lang/IllegalArgumentException" "java/lang/IndexOutOfBoundsException" U ∧ va_Nc "java/lang/IllegalStateException" "java/lang/IndexOutOfBoundsException" U ∧ va_Nc "java/lang/IllegalStateException" "java/lang/IllegalArgumentException" U
theorem zn_m {u U : State} (hvm : u.vm.Alike U.vm) (h : zn u) : zn U := ⟨h.1.moved hvm, h.2.1.moved hvm, h.2.2.moved hvm⟩
def lZ (ad : Nat → Nat) (sz : Nat) (U : State) : Prop := zx (cA ad sz) U ∧ zn U
def rmI (x y : Int32) : Int32 := x - x / y * y
/-- the divisor isn't 0 -/
def gr {α : Type} (v : Int32) (x : Option α) : Option α := if v = 0 then none else x
theorem gr_o {α : Type} {v : Int32} {x : Option α} {r : α} (h : gr v x = some r) : ¬ v = 0 ∧ x = some r := by
  unfold gr at h
  by_cases c : v = 0
  · rw [if_pos c] at h; cases h
  · rw [if_neg c] at h; exact ⟨c, h⟩
theorem gr_i {α : Type} {v : Int32} {x : Option α} (h : ¬ v = 0) : gr v x = x := if_neg h
theorem cW_q {Y : cYt} {ad : Nat → Nat} {mu : Nat → Nat → Int32} {k : Nat} {q : Nat × va_E} (h : (cwW Y ad mu)[k]? = some q) : ∃ i, i < 157 ∧ q.1 = ad i := by
  unfold cwW at h
  rw [List.getElem?_map] at h
  by_cases hk : k < 157
  · rw [List.getElem?_range hk] at h
    exact ⟨k, hk, by rw [← Option.some.inj h]⟩
  · rw [List.getElem?_eq_none (by rw [List.length_range]; omega)] at h
    cases h
theorem hc_bl {D : va_G} {Y : cYt} {ad : Nat → Nat} {mu : Nat → Nat → Int32} {As : List Value} {sz : Nat} : FrameBlind (va_Pc As (fun U => U.heap.size = sz ∧ zx (cA ad sz) U ∧ cB D Y ad mu U)) := fun a U g mk h => ⟨h.1, h.2.1, zx_call h.2.2.1, h.2.2.2.1, va_K.moved (u := U) (U := U.calling g mk a) (Vm.Alike.refl U.vm) h.2.2.2.2⟩
theorem lZ_bl {D : va_G} {Y : cYt} {ad : Nat → Nat} {mu : Nat → Nat → Int32} {As : List Value} {sz : Nat} : FrameBlind (va_Pc As (fun U => U.heap.size = sz ∧ lZ ad sz U ∧ cB D Y ad mu U)) := fun a U g mk h => ⟨h.1, h.2.1, ⟨zx_call h.2.2.1.1, zn_m (u := U) (U := U.calling g mk a) (Vm.Alike.refl U.vm) h.2.2.1.2⟩, h.2.2.2.1, va_K.moved (u := U) (U := U.calling g mk a) (Vm.Alike.refl U.vm) h.2.2.2.2⟩
def rmL : Room := { frames := 8, cells := 3, slots := 18, locals := 170 }
theorem hl_iw {p : Program} {l : Launch} {e : Env} {R : Room} {s : State} {m : MethodId} {args : Array Value} {below : List Frame} {meth : Method} {c : Code} {cc : ByteArray} {D : va_G} {Y : cYt} {ad : Nat → Nat} {mu : Nat → Nat → Int32} {H : Heap} {locs : List Loc} {cells slots pc : Nat} {ls : Array Slot} {kc : Int32} {XC : String → State → State → Prop} (hx : p.tables.exec = Jvm.exec) (hb : c.code = cc) (hr : meth.sig.returnType = some .int) (hlk : meth.locks = false) (hK : va_K D vwCl (cTys Y) s) (hP : va_P D vwCl (cwW Y ad mu) H) (hS : va_S (cA ad s.heap.size) s.heap H locs) (h1 : cells ≤ 3) (h2 : slots ≤ 18) (hdg : decode cc pc = .ok (.ireturn, 1)) :
    W p l e R s m args below meth c H locs cells slots (vx_MQ below (va_Qi (fun (r9 : Int32) (_ : Unit) => r9 = kc) (fun _ t9 => cB D Y ad mu t9) (cA ad s.heap.size)) XC args s 3 18 (cA ad s.heap.size)) (F0 m pc ls [.int kc]) :=
  W.widen (k := 3) (n := 18) h1 h2 (vx_ret (W.iret (v := kc) hx hb hr (fun t ht hW => ⟨⟨kc, (), rfl, rfl, by rw [ht]; exact hP, va_K.moved hW.alike hK⟩, hS.F ht⟩) hS.2.2 hdg hlk))
section OneRail
variable {p : Program} {l : Launch} {e : Env} {R : Room} {s : State} {m : MethodId} {args : Array Value} {below : List Frame} {meth : Method} {c : Code} {cc : ByteArray} {nL : Nat} {ret0 : Option FieldType} {D : va_G} {Y : cYt} {ad : Nat → Nat} {mu mu' : Nat → Nat → Int32} {H : Heap} {locs : List Loc} {cells slots pc : Nat} {Q : State → Prop} {ls : Array Slot} {rest As st : List Value}
theorem hr_irem (hexec : p.tables.exec = Jvm.exec) (hb : c.code = cc) {x y : Int32} (hdg : decode cc pc = .ok (.irem, 1)) (hne : ¬ y = 0)
    (k : W p l e R s m args below meth c H locs cells slots Q (F0 m (pc + 1) ls (.int (rmI x y) :: rest))) : W p l e R s m args below meth c H locs cells slots Q (F0 m pc ls (.int y :: .int x :: rest)) := lv_irem hexec hb hdg hne k
theorem kc6 {MC MS : Nat} (hR : R.cells = MC ∧ R.slots = MS) (h : cells ≤ MC ∧ slots ≤ MS) : cells ≤ R.cells ∧ slots ≤ R.slots := by rw [hR.1, hR.2]; exact h
theorem kh {y : MethodName} {ws : List Cond} {n index maxL : Nat} {bytes : ByteArray} {ret : Option FieldType} {hh : List (Nat × Nat × Nat × Nat)} {r : Int32} {MC MS : Nat} (hRc : R.cells = MC ∧ R.slots = MS) (X : cX D Y p s m args meth c cc nL RL ret0) (hZ : lZ ad s.heap.size s) (hH : cH D Y ad mu s H locs)
    (hM : vx_Met l y ws rmL (va_Pc As (fun U => U.heap.size = H.size ∧ lZ ad H.size U ∧ cB D Y ad mu U)) (va_Qi (fun (r9 : Int32) (_ : Unit) => r9 = r) (fun _ t9 => cB D Y ad mu' t9) (cA ad H.size)) (vx_X (fun (_ : Unit) => False) (fun _ _ _ => True) (cA ad H.size)) 3 18 (cA ad H.size))
    (cw : vx_CSW R s args RL index y bytes maxL ret hh ws rmL 3 18 n) (hn : As.length = n) (hls : ls.size = nL) (hst : st = As.reverse ++ rest) (hrest : (rest.map fun v => v.category).sum ≤ 8) (hdg : decode cc pc = .ok (.invokestatic index, 3)) (hc : cells + 3 ≤ MC ∧ slots + 18 ≤ MS)
    (kk : ∀ (H1 : Heap) (locs1 : List Loc), cH D Y ad mu' s H1 locs1 → W p l e R s m args below meth c H1 locs1 (cells + 3) (slots + 18) Q (F0 m (pc + 3) ls (.int r :: rest))) :
    W p l e R s m args below meth c H locs cells slots Q (F0 m pc ls st) := by
  have hA : ∀ q, cA ad H.size q → cA ad s.heap.size q := fun q h => h.elim Or.inl (fun h => Or.inr (Nat.le_trans hH.2.1 h))
  refine vx_calli (vx_runSX X.1 hM cw ⟨lZ_bl, fun U hU hW => ⟨rfl, by rw [hU], ⟨zx_at hZ.1 hW (fun a h1 h2 => by rw [hU]; exact hH.2.2.1 a h1 h2) hA, zn_m hW.alike hZ.2⟩, by rw [hU]; exact hH.1, va_K.moved hW.alike X.2.2.2⟩⟩ (g := F0 m pc ls st) rfl hn hls hst (lv_room hrest) hdg (by rw [hRc.1, hRc.2]; exact hc)) hH.2 (fun q _ h => hA q h) hA (fun q _ h => hA q h) (fun E ce q9 u t9 H1 locs1 ht hvm hpx hB hz1 hk1 hS hc1 hc2 hc3 => hpx.elim) (fun r9 u t9 H1 locs1 ht hvm hw hB hz1 hk1 hS => ?_)
  subst hw
  exact kk H1 locs1 ⟨by rw [← ht]; exact hB.1, hS⟩
/-- meanSpeed -/
theorem km6 {y : MethodName} {ws : List Cond} {rm : Room} {index maxL : Nat} {bytes : ByteArray} {ret : Option FieldType} {r : UInt32} (X : cX D Y p s m args meth c cc nL RL ret0) (hP : va_P D vwCl (cwW Y ad mu) H)
    (hM : Met l y ws rm (va_Pc [.ref (ad 150)] (cB D Y ad mu)) (QcReadF r) 0 0 (fun _ => False))
    (cw : CallW R s args RL RX4 index y bytes maxL ret ws rm 0 0 0) (hls : ls.size = nL) (hst : st = .ref (ad 150) :: rest) (hrest : (rest.map fun v => v.category).sum ≤ 8) (hdg : decode cc pc = .ok (.invokevirtual index, 3)) (hc : cells ≤ R.cells ∧ slots ≤ R.slots)
    (kk : W p l e R s m args below meth c H locs cells slots Q (F0 m (pc + 3) ls (.float r :: rest))) :
    W p l e R s m args below meth c H locs cells slots Q (F0 m pc ls st) := by
  subst hst
  have hr := W.runV (l := l) (e := e) (below := below) (meth := meth) (locs := locs) (As := []) (rest := rest) X.1 hM cw ⟨cB_bl, va_recv X.2.2.2 hP (ci := 4) (q0 := 150) rfl (cw_ate (by omega) rfl), fun U hU hW => ⟨rfl, by rw [hU]; exact hP, va_K.moved hW.alike X.2.2.2⟩⟩ (g := F0 m pc ls (.ref (ad 150) :: rest)) rfl rfl hls rfl (lv_room hrest) hdg hc
  intro T hT X9
  obtain ⟨v, st₀, t, T', L, h0, X', hL, e1, ⟨hv, hh⟩, st2⟩ := hr T hT X9
  cases hv
  obtain ⟨t2, a1, b1⟩ := kk T' (by rw [e1, hh, h0]) (Stand.forget X' (fun q h => (hL q h).elim))
  exact ⟨t2, st2 t2 a1, b1⟩
theorem e6_i {own : String} {ret : Option FieldType} (X : cX D Y p s m args meth c cc nL own ret) (hH : cH D Y ad mu s H locs) {v : Int32} {mc ms : Nat} (hr : ret = some .int) (h1 : cells ≤ mc) (h2 : slots ≤ ms) (hdg : decode cc pc = .ok (.ireturn, 1)) : W p l e R s m args below meth c H locs cells slots (MQ below (va_Qi (fun (r9 : Int32) (_ : Unit) => r9 = v) (fun _ t => cB D Y ad mu t) (cA ad s.heap.size)) args s mc ms (cA ad s.heap.size)) (F0 m pc ls [.int v]) := W.widen (k := mc) (n := ms) h1 h2 (W.iret (v := v) X.1.1 X.1.2.1 (X.2.1.trans hr) (fun t ht hW => ⟨⟨v, (), rfl, rfl, by rw [ht]; exact hH.1, va_K.moved hW.alike X.2.2.2⟩, hH.2.F ht⟩) hH.2.2.2 hdg X.2.2.1)
theorem e6_z {own : String} {ret : Option FieldType} (X : cX D Y p s m args meth c cc nL own ret) (hH : cH D Y ad mu s H locs) {v : Int32} {mc ms : Nat} {ty : FieldType} (hr : ret = some ty) (hn : narrow ty (.int v) = .int v) (h1 : cells ≤ mc) (h2 : slots ≤ ms) (hdg : decode cc pc = .ok (.ireturn, 1)) : W p l e R s m args below meth c H locs cells slots (MQ below (va_Qi (fun (r9 : Int32) (_ : Unit) => r9 = v) (fun _ t => cB D Y ad mu t) (cA ad s.heap.size)) args s mc ms (cA ad s.heap.size)) (F0 m pc ls [.int v]) := W.widen (k := mc) (n := ms) h1 h2 (W.zret (v := v) X.1.1 X.1.2.1 (X.2.1.trans hr) hn (fun t ht hW => ⟨⟨v, (), rfl, rfl, by rw [ht]; exact hH.1, va_K.moved hW.alike X.2.2.2⟩, hH.2.F ht⟩) hH.2.2.2 hdg X.2.2.1)
end OneRail
