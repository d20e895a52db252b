/-! the law's own walk: what stands fixed, the worlds, a call of a helper, of the model, of the class -/
def lF (D : va_G) (Y : cYt) (cI cZ cL : ClassId) (ad bd : Nat → Nat) (o : Nat) (p : Program) (l : Launch) (s : State) (m : MethodId) (args : Array Value) (c : Code) : Prop :=
  CallFix p m c cL_law 9 s args gw RL ∧ l.stackTraces = false ∧ (cInj ad ∧ mInj bd ∧ (∀ i j, i < 157 → j < 9 → ad i ≠ bd j) ∧ (∀ i, i < 157 → ad i ≠ o) ∧ (∀ j, j < 9 → bd j ≠ o)) ∧ ((∀ i, i < 157 → s.heap.size ≤ ad i) ∧ (∀ j, j < 9 → s.heap.size ≤ bd j) ∧ s.heap.size ≤ o) ∧ (va_K D vwCl (cTys Y) s ∧ va_K D vwCl (mTys cI cZ) s ∧ va_K D vwCl [(cL, .long)] s) ∧ zx (fun q => s.heap.size ≤ q) s ∧ zn s
def lH (D : va_G) (Y : cYt) (cI cZ cL : ClassId) (ad bd : Nat → Nat) (o : Nat) (mu : Nat → Nat → Int32) (f : Nat → Int64) (v0 v1 v2 v3 v4 v5 v6 v7 v8 : Nat → Int32) (s : State) (H : Heap) (locs : List Loc) : Prop :=
  va_P D vwCl (cwW Y ad mu) H ∧ va_P D vwCl (mwW cI cZ bd v0 v1 v2 v3 v4 v5 v6 v7 v8) H ∧ va_P D vwCl (oW cL o f) H ∧ va_S (fun q => s.heap.size ≤ q) s.heap H locs
theorem mW_q {cI cZ : ClassId} {bd : Nat → Nat} {v0 v1 v2 v3 v4 v5 v6 v7 v8 : Nat → Int32} {k : Nat} {q : Nat × va_E} (h : (mwW cI cZ bd v0 v1 v2 v3 v4 v5 v6 v7 v8)[k]? = some q) : ∃ j, j < 9 ∧ q.1 = bd j := by
  match k, h with
  | 0, h => cases h; exact ⟨0, by omega, rfl⟩
  | 1, h => cases h; exact ⟨1, by omega, rfl⟩
  | 2, h => cases h; exact ⟨2, by omega, rfl⟩
  | 3, h => cases h; exact ⟨3, by omega, rfl⟩
  | 4, h => cases h; exact ⟨4, by omega, rfl⟩
  | 5, h => cases h; exact ⟨5, by omega, rfl⟩
  | 6, h => cases h; exact ⟨6, by omega, rfl⟩
  | 7, h => cases h; exact ⟨7, by omega, rfl⟩
  | 8, h => cases h; exact ⟨8, by omega, rfl⟩
theorem hZ_bl {D : va_G} {Y : cYt} {ad : Nat → Nat} {cL : ClassId} {o sz : Nat} {mu : Nat → Nat → Int32} {f : Nat → Int64} {As : List Value} : FrameBlind (va_Pc As (fun U => U.heap.size = sz ∧ hZ ad o sz U ∧ hB D Y ad cL o mu f U)) := fun a U g mk h => ⟨h.1, h.2.1, ⟨zx_call h.2.2.1.1, zn_m (u := U) (U := U.calling g mk a) (Vm.Alike.refl U.vm) h.2.2.1.2⟩, ⟨h.2.2.2.1.1, va_K.moved (u := U) (U := U.calling g mk a) (Vm.Alike.refl U.vm) h.2.2.2.1.2⟩, h.2.2.2.2.1, va_K.moved (u := U) (U := U.calling g mk a) (Vm.Alike.refl U.vm) h.2.2.2.2.2⟩
section LawRows
variable {p : Program} {l : Launch} {e : Env} {s : State} {m : MethodId} {args : Array Value} {below : List Frame} {meth : Method} {c : Code} {D : va_G} {Y : cYt} {cI cZ cL : ClassId} {ad bd : Nat → Nat} {o : Nat} {mu mu' : Nat → Nat → Int32} {f : Nat → Int64} {v0 v1 v2 v3 v4 v5 v6 v7 v8 w0 w1 w2 w3 w4 w5 w6 w7 w8 : Nat → Int32} {H : Heap} {locs : List Loc} {cells slots pc : Nat} {Q : State → Prop} {ls : Array Slot} {rest As st : List Value}
theorem kL {y : MethodName} {ws : List Cond} {n index maxL : Nat} {bytes : ByteArray} {ret : Option FieldType} {hh : List (Nat × Nat × Nat × Nat)} {kc : Int32} {xr : Int64} (F : lF D Y cI cZ cL ad bd o p l s m args c) (hH : lH D Y cI cZ cL ad bd o mu f v0 v1 v2 v3 v4 v5 v6 v7 v8 s H locs)
    (hM : vx_Met l y ws rmL (va_Pc As (fun U => U.heap.size = H.size ∧ hZ ad o H.size U ∧ hB D Y ad cL o mu f U)) (va_Qi (fun (r9 : Int32) (g : Nat → Int64) => r9 = kc ∧ (kc = 0 → g 0 = xr)) (fun g t9 => hB D Y ad cL o mu' g t9) (hA ad o H.size)) (vx_X (fun (_ : Unit) => False) (fun _ _ _ => True) (hA ad o H.size)) 3 18 (hA ad o H.size))
    (cw : vx_CSW room_1 s args RL index y bytes maxL ret hh ws rmL 3 18 n) (hn : As.length = n) (hls : ls.size = 9) (hst : st = As.reverse ++ rest) (hrest : (rest.map fun v => v.category).sum ≤ 8) (hdg : decode cL_law pc = .ok (.invokestatic index, 3)) (hc : cells + 3 ≤ 601024 ∧ slots + 18 ≤ 7293034)
    (kk : ∀ (H1 : Heap) (locs1 : List Loc) (g : Nat → Int64), (kc = 0 → g 0 = xr) → lH D Y cI cZ cL ad bd o mu' g v0 v1 v2 v3 v4 v5 v6 v7 v8 s H1 locs1 → W p l e room_1 s m args below meth c H1 locs1 (cells + 3) (slots + 18) Q (F0 m (pc + 3) ls (.int kc :: rest))) :
    W p l e room_1 s m args below meth c H locs cells slots Q (F0 m pc ls st) := by
  obtain ⟨SF, hl0, ⟨hI, hJ, hab, hao, hbo⟩, ⟨ha0, hb0, ho0⟩, ⟨hK, hKm, hKo⟩, hz, hn0⟩ := F
  obtain ⟨hP, hPm, hPo, hS⟩ := hH
  have ho : hO ad o H.size := ⟨va_at.lt (hPo 0 _ rfl), hao⟩
  have hsub : ∀ q, hA ad o H.size q → s.heap.size ≤ q := fun q h => h.elim (fun h => h.elim (fun ⟨i, hi, e⟩ => by rw [e]; exact ha0 i hi) (fun h => Nat.le_trans hS.1 h)) (fun h => by rw [h]; exact ho0)
  refine vx_calli (vx_runSX SF hM cw ⟨hZ_bl, fun U hU hW => ⟨rfl, by rw [hU], ⟨zx_at hz hW (fun a h1 h2 => by rw [hU]; exact hS.2.1 a h1 h2) hsub, zn_m hW.alike hn0⟩, ⟨by rw [hU]; exact hP, va_K.moved hW.alike hK⟩, by rw [hU]; exact hPo, va_K.moved hW.alike hKo⟩⟩ (g := F0 m pc ls st) rfl hn hls hst (lv_room hrest) hdg hc) hS (fun q _ h => hsub q h) hsub (fun q _ h => hsub q h) (fun E ce q9 u t9 H1 locs1 ht hvm hpx hB hz1 hk1 hS hc1 hc2 hc3 => hpx.elim) (fun r g t9 H1 locs1 ht hvm hw hB hz1 hk1 hS1 => ?_)
  obtain ⟨rfl, hg⟩ := hw
  obtain ⟨⟨q1, -⟩, q2, -⟩ := hB
  rw [ht] at q1 q2
  refine kk H1 locs1 g hg ⟨q1, va_P.kept hPm (fun k q hq => hk1 q.1 (va_at.lt (hPm k q hq)) ?_), q2, hS1⟩
  obtain ⟨j, hj, e⟩ := mW_q hq
  have hlt := va_at.lt (hPm k q hq)
  rw [e] at hlt ⊢
  exact fun h => h.elim (fun h => h.elim (fun ⟨i, hi, e⟩ => hab i j hi hj e.symm) (fun h => absurd hlt (Nat.not_lt.mpr h))) (fun h => hbo j hj h)
theorem kM {y : MethodName} {ws : List Cond} {rm : Room} {n index maxL : Nat} {bytes : ByteArray} {ret : Option FieldType} {r : Int32} (F : lF D Y cI cZ cL ad bd o p l s m args c) (hH : lH D Y cI cZ cL ad bd o mu f v0 v1 v2 v3 v4 v5 v6 v7 v8 s H locs)
    (hM : Met l y ws rm (va_Pc (.ref (bd 0) :: As) (fun U => U.heap.size = H.size ∧ mB D cI cZ bd v0 v1 v2 v3 v4 v5 v6 v7 v8 U)) (va_Qi (fun (r9 : Int32) (_ : Unit) => r9 = r) (fun _ t9 => mB D cI cZ bd w0 w1 w2 w3 w4 w5 w6 w7 w8 t9) (mA bd H.size)) 0 0 (mA bd H.size))
    (cw : CallW room_1 s args RL RX5 index y bytes maxL ret ws rm 0 0 n) (hn : As.length = n) (hls : ls.size = 9) (hst : st = As.reverse ++ .ref (bd 0) :: rest) (hrest : (rest.map fun v => v.category).sum ≤ 8) (hdg : decode cL_law pc = .ok (.invokevirtual index, 3)) (hc : cells ≤ 601024 ∧ slots ≤ 7293034)
    (kk : ∀ (H1 : Heap) (locs1 : List Loc), lH D Y cI cZ cL ad bd o mu f w0 w1 w2 w3 w4 w5 w6 w7 w8 s H1 locs1 → W p l e room_1 s m args below meth c H1 locs1 cells slots Q (F0 m (pc + 3) ls (.int r :: rest))) :
    W p l e room_1 s m args below meth c H locs cells slots Q (F0 m pc ls st) := by
  obtain ⟨SF, hl0, ⟨hI, hJ, hab, hao, hbo⟩, ⟨ha0, hb0, ho0⟩, ⟨hK, hKm, hKo⟩, hz, hn0⟩ := F
  obtain ⟨hP, hPm, hPo, hS⟩ := hH
  have hsub : ∀ q, mA bd H.size q → s.heap.size ≤ q := fun q h => h.elim (fun ⟨i, hi, e⟩ => by rw [e]; exact hb0 i hi) (fun h => Nat.le_trans hS.1 h)
  refine va_calli (va_runV (As := As) (rest := rest) SF hM cw ⟨mBs_bl, va_recv hKm hPm (ci := 5) (q0 := 0) rfl rfl, fun U hU hW => ⟨rfl, by rw [hU], by rw [hU]; exact hPm, va_K.moved hW.alike hKm⟩⟩ (g := F0 m pc ls st) rfl hn hls hst (lv_room hrest) hdg hc) hS (fun q _ h => hsub q h) hsub (fun r9 u t9 H1 locs1 ht hvm hw hB hz1 hk1 hS1 => ?_)
  subst hw
  refine kk H1 locs1 ⟨va_P.kept hP (fun k q hq => hk1 q.1 (va_at.lt (hP k q hq)) ?_), by rw [← ht]; exact hB.1, va_P.kept hPo (fun k q hq => hk1 q.1 (va_at.lt (hPo k q hq)) ?_), hS1⟩
  · obtain ⟨i, hi, e⟩ := cW_q hq
    have hlt := va_at.lt (hP k q hq)
    rw [e] at hlt ⊢
    exact fun h => h.elim (fun ⟨j, hj, e⟩ => hab i j hi hj e) (fun h => absurd hlt (Nat.not_lt.mpr h))
  · have hlt := va_at.lt (hPo k q hq)
    rw [oW_o hq] at hlt ⊢
    exact fun h => h.elim (fun ⟨j, hj, e⟩ => hbo j hj e.symm) (fun h => absurd hlt (Nat.not_lt.mpr h))
theorem kMf {y : MethodName} {ws : List Cond} {rm : Room} {n index maxL : Nat} {bytes : ByteArray} {ret : Option FieldType} {r : UInt32} (F : lF D Y cI cZ cL ad bd o p l s m args c) (hH : lH D Y cI cZ cL ad bd o mu f v0 v1 v2 v3 v4 v5 v6 v7 v8 s H locs)
    (hM : Met l y ws rm (va_Pc (.ref (bd 0) :: As) (fun U => U.heap.size = H.size ∧ mB D cI cZ bd v0 v1 v2 v3 v4 v5 v6 v7 v8 U)) (va_Qf (fun (r9 : UInt32) (_ : Unit) => r9 = r) (fun _ t9 => mB D cI cZ bd w0 w1 w2 w3 w4 w5 w6 w7 w8 t9) (mA bd H.size)) 0 0 (mA bd H.size))
    (cw : CallW room_1 s args RL RX5 index y bytes maxL ret ws rm 0 0 n) (hn : As.length = n) (hls : ls.size = 9) (hst : st = As.reverse ++ .ref (bd 0) :: rest) (hrest : (rest.map fun v => v.category).sum ≤ 8) (hdg : decode cL_law pc = .ok (.invokevirtual index, 3)) (hc : cells ≤ 601024 ∧ slots ≤ 7293034)
    (kk : ∀ (H1 : Heap) (locs1 : List Loc), lH D Y cI cZ cL ad bd o mu f w0 w1 w2 w3 w4 w5 w6 w7 w8 s H1 locs1 → W p l e room_1 s m args below meth c H1 locs1 cells slots Q (F0 m (pc + 3) ls (.float r :: rest))) :
    W p l e room_1 s m args below meth c H locs cells slots Q (F0 m pc ls st) := by
  obtain ⟨SF, hl0, ⟨hI, hJ, hab, hao, hbo⟩, ⟨ha0, hb0, ho0⟩, ⟨hK, hKm, hKo⟩, hz, hn0⟩ := F
  obtain ⟨hP, hPm, hPo, hS⟩ := hH
  have hsub : ∀ q, mA bd H.size q → s.heap.size ≤ q := fun q h => h.elim (fun ⟨i, hi, e⟩ => by rw [e]; exact hb0 i hi) (fun h => Nat.le_trans hS.1 h)
  refine va_callf (va_runV (As := As) (rest := rest) SF hM cw ⟨mBs_bl, va_recv hKm hPm (ci := 5) (q0 := 0) rfl rfl, fun U hU hW => ⟨rfl, by rw [hU], by rw [hU]; exact hPm, va_K.moved hW.alike hKm⟩⟩ (g := F0 m pc ls st) rfl hn hls hst (lv_room hrest) hdg hc) hS (fun q _ h => hsub q h) hsub (fun r9 u t9 H1 locs1 ht hvm hw hB hz1 hk1 hS1 => ?_)
  subst hw
  refine kk H1 locs1 ⟨va_P.kept hP (fun k q hq => hk1 q.1 (va_at.lt (hP k q hq)) ?_), by rw [← ht]; exact hB.1, va_P.kept hPo (fun k q hq => hk1 q.1 (va_at.lt (hPo k q hq)) ?_), hS1⟩
  · obtain ⟨i, hi, e⟩ := cW_q hq
    have hlt := va_at.lt (hP k q hq)
    rw [e] at hlt ⊢
    exact fun h => h.elim (fun ⟨j, hj, e⟩ => hab i j hi hj e) (fun h => absurd hlt (Nat.not_lt.mpr h))
  · have hlt := va_at.lt (hPo k q hq)
    rw [oW_o hq] at hlt ⊢
    exact fun h => h.elim (fun ⟨j, hj, e⟩ => hbo j hj e.symm) (fun h => absurd hlt (Nat.not_lt.mpr h))
/-- the class's clearBuffer -/
theorem kC {y : MethodName} {ws : List Cond} {rm : Room} {n index maxL : Nat} {bytes : ByteArray} {ret : Option FieldType} {r : Int32} (F : lF D Y cI cZ cL ad bd o p l s m args c) (hH : lH D Y cI cZ cL ad bd o mu f v0 v1 v2 v3 v4 v5 v6 v7 v8 s H locs)
    (hM : Met l y ws rm (va_Pc (.ref (ad 150) :: As) (fun U => U.heap.size = H.size ∧ cB D Y ad mu U)) (va_Qi (fun (r9 : Int32) (_ : Unit) => r9 = r) (fun _ t9 => cB D Y ad mu' t9) (cA ad H.size)) 0 0 (cA ad H.size))
    (cw : CallW room_1 s args RL RX4 index y bytes maxL ret ws rm 0 0 n) (hn : As.length = n) (hls : ls.size = 9) (hst : st = As.reverse ++ .ref (ad 150) :: rest) (hrest : (rest.map fun v => v.category).sum ≤ 8) (hdg : decode cL_law pc = .ok (.invokevirtual index, 3)) (hc : cells ≤ 601024 ∧ slots ≤ 7293034)
    (kk : ∀ (H1 : Heap) (locs1 : List Loc), lH D Y cI cZ cL ad bd o mu' f v0 v1 v2 v3 v4 v5 v6 v7 v8 s H1 locs1 → W p l e room_1 s m args below meth c H1 locs1 cells slots Q (F0 m (pc + 3) ls (.int r :: rest))) :
    W p l e room_1 s m args below meth c H locs cells slots Q (F0 m pc ls st) := by
  obtain ⟨SF, hl0, ⟨hI, hJ, hab, hao, hbo⟩, ⟨ha0, hb0, ho0⟩, ⟨hK, hKm, hKo⟩, hz, hn0⟩ := F
  obtain ⟨hP, hPm, hPo, hS⟩ := hH
  have hsub : ∀ q, cA ad H.size q → s.heap.size ≤ q := fun q h => h.elim (fun ⟨i, hi, e⟩ => by rw [e]; exact ha0 i hi) (fun h => Nat.le_trans hS.1 h)
  refine va_calli (va_runV (As := As) (rest := rest) SF hM cw ⟨cBs_bl, va_recv hK hP (ci := 4) (q0 := 150) rfl (cw_ate (by omega) rfl), fun U hU hW => ⟨rfl, by rw [hU], by rw [hU]; exact hP, va_K.moved hW.alike hK⟩⟩ (g := F0 m pc ls st) rfl hn hls hst (lv_room hrest) hdg hc) hS (fun q _ h => hsub q h) hsub (fun r9 u t9 H1 locs1 ht hvm hw hB hz1 hk1 hS1 => ?_)
  subst hw
  refine kk H1 locs1 ⟨by rw [← ht]; exact hB.1, va_P.kept hPm (fun k q hq => hk1 q.1 (va_at.lt (hPm k q hq)) ?_), va_P.kept hPo (fun k q hq => hk1 q.1 (va_at.lt (hPo k q hq)) ?_), hS1⟩
  · obtain ⟨j, hj, e⟩ := mW_q hq
    have hlt := va_at.lt (hPm k q hq)
    rw [e] at hlt ⊢
    exact fun h => h.elim (fun ⟨i, hi, e⟩ => hab i j hi hj e.symm) (fun h => absurd hlt (Nat.not_lt.mpr h))
  · have hlt := va_at.lt (hPo k q hq)
    rw [oW_o hq] at hlt ⊢
    exact fun h => h.elim (fun ⟨i, hi, e⟩ => hao i hi e.symm) (fun h => absurd hlt (Nat.not_lt.mpr h))
/-- a reading call of the class, of the model -/
theorem kCr {y : MethodName} {ws : List Cond} {rm : Room} {index maxL : Nat} {bytes : ByteArray} {ret : Option FieldType} {r : Value} {Qr : Array Value → State → Outcome → State → Prop} (hQ : ∀ a st oc t, Qr a st oc t → oc = .returned (some r) ∧ t.heap = st.heap) (F : lF D Y cI cZ cL ad bd o p l s m args c) (hH : lH D Y cI cZ cL ad bd o mu f v0 v1 v2 v3 v4 v5 v6 v7 v8 s H locs)
    (hM : Met l y ws rm (va_Pc [.ref (ad 150)] (cB D Y ad mu)) Qr 0 0 (fun _ => False))
    (cw : CallW room_1 s args RL RX4 index y bytes maxL ret ws rm 0 0 0) (hls : ls.size = 9) (hst : st = .ref (ad 150) :: rest) (hrest : (rest.map fun v => v.category).sum ≤ 8) (hdg : decode cL_law pc = .ok (.invokevirtual index, 3)) (hc : cells ≤ 601024 ∧ slots ≤ 7293034)
    (kk : W p l e room_1 s m args below meth c H locs cells slots Q (F0 m (pc + 3) ls (r :: rest))) :
    W p l e room_1 s m args below meth c H locs cells slots Q (F0 m pc ls st) := by
  obtain ⟨SF, hl0, ⟨hI, hJ, hab, hao, hbo⟩, ⟨ha0, hb0, ho0⟩, ⟨hK, hKm, hKo⟩, hz, hn0⟩ := F
  obtain ⟨hP, hPm, hPo, hS⟩ := hH
  subst hst
  have hr := W.runV (l := l) (e := e) (below := below) (meth := meth) (locs := locs) (As := []) (rest := rest) SF hM cw ⟨cB_bl, va_recv hK hP (ci := 4) (q0 := 150) rfl (cw_ate (by omega) rfl), fun U hU hW => ⟨rfl, by rw [hU]; exact hP, va_K.moved hW.alike hK⟩⟩ (g := F0 m pc ls (.ref (ad 150) :: rest)) rfl rfl hls rfl (lv_room hrest) hdg hc
  intro T hT X9
  obtain ⟨v, st₀, t, T', L, h0, X', hL, e1, hq, st2⟩ := hr T hT X9
  obtain ⟨hv, hh⟩ := hQ _ _ _ _ hq
  cases hv
  obtain ⟨t2, a1, b1⟩ := kk T' (by rw [e1, hh, h0]) (Stand.forget X' (fun q h => (hL q h).elim))
  exact ⟨t2, st2 t2 a1, b1⟩
theorem kT (F : lF D Y cI cZ cL ad bd o p l s m args c) (hH : lH D Y cI cZ cL ad bd o mu f v0 v1 v2 v3 v4 v5 v6 v7 v8 s H locs) (hls : ls.size = 9) (hst : st = .ref (bd 0) :: rest) (hrest : (rest.map fun v => v.category).sum ≤ 8) (hdg : decode cL_law pc = .ok (.invokevirtual 99, 3)) (hc : cells ≤ 601024 ∧ slots ≤ 7293034)
    (kk : W p l e room_1 s m args below meth c H locs cells slots Q (F0 m (pc + 3) ls (.int (v0 8) :: rest))) :
    W p l e room_1 s m args below meth c H locs cells slots Q (F0 m pc ls st) := by
  obtain ⟨SF, hl0, ⟨hI, hJ, hab, hao, hbo⟩, ⟨ha0, hb0, ho0⟩, ⟨hK, hKm, hKo⟩, hz, hn0⟩ := F
  obtain ⟨hP, hPm, hPo, hS⟩ := hH
  subst hst
  exact W.callR (W.runV (As := []) SF (c5_thrown l rfl) (cwV 0 SF.2.2.2.2 qL_99 rfl rfl rfl (by decide +kernel) ⟨Nat.le_of_ble_eq_true rfl, Nat.le_of_ble_eq_true rfl⟩) ⟨mB_bl, va_recv hKm hPm (ci := 5) (q0 := 0) rfl rfl, fun U hU hW => ⟨rfl, by rw [hU]; exact hPm, va_K.moved hW.alike hKm⟩⟩ rfl rfl hls rfl (lv_room hrest) hdg hc) kk
end LawRows
