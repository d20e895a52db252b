/-! p29: the start -/
theorem rel_0 : Rel mu0 (fun _ => 0) s0 (fun _ => 0) (fun _ => 0) (fun _ => 0) (fun _ => 0) := by
  refine ⟨rfl, fun k hk => ?_, ⟨0, 0, by omega, by omega, rfl, rfl, rfl, fun j hj => by omega⟩, fun t ht => ⟨rfl, Or.inl rfl, fun q => absurd rfl q⟩, ⟨0, by omega, rfl, rfl, fun i hi => by omega⟩⟩
  rw [show mu0 k = s0 from if_pos hk]
  exact inv_s0
def S0 : Stt := (s0, (fun _ => s0), 0, fun _ => none)
theorem as_rel {mu : Nat → Nat → Int32} {v1 v3 v4 v6 : Nat → Int32} (h : Rel mu (fun _ => 0) s0 v3 v4 (fun _ => 0) v6) : AS mu S0 := by
  obtain ⟨h1, h2, ⟨x, n, hx, hn, m1, m2, m3, hr⟩, h4, ⟨L, hL, l1, l2, l3⟩⟩ := h
  have hn0 : n = 0 := ((n_eq (a := 0) (by omega) (by omega)).mp m3).symm
  subst hn0
  exact ⟨h1, h2, ⟨x, hx, m1, fun j hj => absurd hj (Nat.not_lt_zero j)⟩, Nat.zero_le _, m2, fun t ht => ⟨(h4 t ht).1, fun u hu => by cases hu⟩, ⟨L, hL, l1⟩⟩
theorem as_0 : AS mu0 S0 := as_rel (v1 := s0) rel_0
theorem js_0 : JS 0 S0 := by
  have z : ∀ i, 30 ≤ i → i ≠ 168 → i ≠ 169 → i ≠ 170 → (s0 i).toInt = 0 := fun i h1 h2 h3 h4 => by rw [s0_z h1 h2 h3 h4]; rfl
  have hJ : JN 0 0 s0 := by
    refine ⟨inv_s0, by omega, s0_z (by omega) (by omega) (by omega) (by omega), fun c hc => absurd hc (Nat.not_lt_zero c), fun c d hc => absurd hc (Nat.not_lt_zero c), ?_, ?_, ?_, ?_, fun m hm => ?_⟩
    · rw [z 164 (by omega) (by omega) (by omega) (by omega), z 165 (by omega) (by omega) (by omega) (by omega), z 166 (by omega) (by omega) (by omega) (by omega)]; rfl
    · rw [z 165 (by omega) (by omega) (by omega) (by omega)]; rfl
    · rw [z 164 (by omega) (by omega) (by omega) (by omega), z 165 (by omega) (by omega) (by omega) (by omega), z 166 (by omega) (by omega) (by omega) (by omega)]; omega
    · rw [z 163 (by omega) (by omega) (by omega) (by omega)]; omega
    · rw [z (60 + m) (by omega) (by omega) (by omega) (by omega)]; omega
  exact ⟨⟨0, hJ⟩, fun j hj => absurd hj (Nat.not_lt_zero j), (fun t u _ e => by cases e), Int.le_refl _⟩
set_option maxRecDepth 100000 in
theorem lb_ok : lbG 0 s0 0 = true := by decide +kernel
theorem lb_0 : ∃ mu', f6_leastBrake_0 0 mu0 = some (0, mu') ∧ AS mu' S0 := by
  obtain ⟨mu', e1, e2⟩ := lc_s (x := 0) (sml_n (k := 0) (by omega)) 10 0 fu mu0 (by omega) (by omega) (by rw [fu_eq]; omega) rel_0
  refine ⟨mu', ?_, as_rel (v1 := s0) e2⟩
  have e3 : lbU (lbG 0 s0) 10 0 = 0 := if_pos lb_ok
  rw [e3] at e1
  unfold f6_leastBrake_0 f4_leastBrake_0
  rw [iw_s, ob, b01_t (by decide), if_neg n10]
  show Option.bind (f4_leastBrake_12 fu 0 (nI 0) mu0) _ = _
  rw [e1, ob, if_pos rfl]
theorem fe_0 : f4_firstError_0 mu0 = some 0 := by decide +kernel
/-! two railways in one heap -/
def cA2 (ad bd : Nat → Nat) (sz : Nat) : Nat → Prop := fun q => cA ad sz q ∨ ∃ j, j < 157 ∧ q = bd j
def d2 (D : va_G) (Y : cYt) (A : Nat → Prop) (ad bd : Nat → Nat) (mu nu : Nat → Nat → Int32) (s : State) (H : Heap) (locs : List Loc) : Prop := va_P D vwCl (cwW Y ad mu) H ∧ va_P D vwCl (cwW Y bd nu) H ∧ va_S A s.heap H locs
def dZ (A : Nat → Prop) (ad bd : Nat → Nat) (s : State) : Prop := (zx A s ∧ zn s) ∧ (cInj ad ∧ cInj bd ∧ ∀ i j, i < 157 → j < 157 → ad i ≠ bd j) ∧ (∀ q, s.heap.size ≤ q → A q) ∧ (∀ i, i < 157 → A (ad i)) ∧ ∀ i, i < 157 → A (bd i)
theorem d2_w {D : va_G} {Y : cYt} {A : Nat → Prop} {ad bd : Nat → Nat} {mu nu : Nat → Nat → Int32} {s : State} {H : Heap} {locs : List Loc} (h : d2 D Y A ad bd mu nu s H locs) : d2 D Y A bd ad nu mu s H locs := ⟨h.2.1, h.1, h.2.2⟩
theorem dZ_w {A : Nat → Prop} {ad bd : Nat → Nat} {s : State} (h : dZ A ad bd s) : dZ A bd ad s := ⟨h.1, ⟨h.2.1.2.1, h.2.1.1, fun i j hi hj e => h.2.1.2.2 j i hj hi e.symm⟩, h.2.2.1, h.2.2.2.2, h.2.2.2.1⟩
section TwoRails
variable {p : Program} {l : Launch} {e : Env} {R : Room} {s : State} {m : MethodId} {args : Array Value} {below : List Frame} {meth : Method} {c : Code} {cc : ByteArray} {nL : Nat} {ret0 : Option FieldType} {D : va_G} {Y : cYt} {A : Nat → Prop} {ad bd : Nat → Nat} {mu mu' nu nu' : Nat → Nat → Int32} {H : Heap} {locs : List Loc} {cells slots pc : Nat} {Q : State → Prop} {ls : Array Slot} {rest As st : List Value}
theorem d2_k {H1 : Heap} (Z : dZ A ad bd s) (hQ : va_P D vwCl (cwW Y bd nu) H) (hk : ∀ q : Nat, q < H.size → ¬ cA ad H.size q → H1[q]? = H[q]?) : va_P D vwCl (cwW Y bd nu) H1 := by
  refine va_P.kept hQ (fun k q hq => hk q.1 (va_at.lt (hQ k q hq)) ?_)
  obtain ⟨j, hj, e⟩ := cW_q hq
  have hlt := va_at.lt (hQ k q hq)
  rw [e] at hlt ⊢
  exact fun h => h.elim (fun ⟨i, hi, e⟩ => Z.2.1.2.2 i j hi hj e.symm) (fun h => absurd hlt (Nat.not_lt.mpr h))
theorem d2_A (Z : dZ A ad bd s) (hS : va_S A s.heap H locs) : ∀ q, cA ad H.size q → A q := fun q h => h.elim (fun ⟨i, hi, e⟩ => by rw [e]; exact Z.2.2.2.1 i hi) (fun h => Z.2.2.1 q (Nat.le_trans hS.1 h))
/-- a helper's call over the first -/
theorem ko {y : MethodName} {ws : List Cond} {n index maxL : Nat} {bytes : ByteArray} {ret : Option FieldType} {hh : List (Nat × Nat × Nat × Nat)} {r : Int32} {MC MS : Nat} (hRc : R.cells = MC ∧ R.slots = MS) (X : cX D Y p s m args meth c cc nL RL ret0) (Z : dZ A ad bd s) (hH : d2 D Y A ad bd mu nu s H locs)
    (hM : vx_Met l y ws rmL (va_Pc As (fun U => U.heap.size = H.size ∧ lZ ad H.size U ∧ cB D Y ad mu U)) (va_Qi (fun (r9 : Int32) (_ : Unit) => r9 = r) (fun _ t9 => cB D Y ad mu' t9) (cA ad H.size)) (vx_X (fun (_ : Unit) => False) (fun _ _ _ => True) (cA ad H.size)) 3 18 (cA ad H.size))
    (cw : vx_CSW R s args RL index y bytes maxL ret hh ws rmL 3 18 n) (hn : As.length = n) (hls : ls.size = nL) (hst : st = As.reverse ++ rest) (hrest : (rest.map fun v => v.category).sum ≤ 8) (hdg : decode cc pc = .ok (.invokestatic index, 3)) (hc : cells + 3 ≤ MC ∧ slots + 18 ≤ MS)
    (kk : ∀ (H1 : Heap) (locs1 : List Loc), d2 D Y A ad bd mu' nu s H1 locs1 → W p l e R s m args below meth c H1 locs1 (cells + 3) (slots + 18) Q (F0 m (pc + 3) ls (.int r :: rest))) :
    W p l e R s m args below meth c H locs cells slots Q (F0 m pc ls st) := by
  obtain ⟨hP, hQ, hS⟩ := hH
  have hA := d2_A Z hS
  refine vx_calli (vx_runSX X.1 hM cw ⟨lZ_bl, fun U hU hW => ⟨rfl, by rw [hU], ⟨zx_at Z.1.1 hW (fun a h1 h2 => by rw [hU]; exact hS.2.1 a h1 h2) hA, zn_m hW.alike Z.1.2⟩, by rw [hU]; exact hP, va_K.moved hW.alike X.2.2.2⟩⟩ (g := F0 m pc ls st) rfl hn hls hst (lv_room hrest) hdg (by rw [hRc.1, hRc.2]; exact hc)) hS (fun q _ h => hA q h) hA (fun q _ h => hA q h) (fun E ce q9 u t9 H1 locs1 ht hvm hpx hB hz1 hk1 hS hc1 hc2 hc3 => hpx.elim) (fun r9 u t9 H1 locs1 ht hvm hw hB hz1 hk1 hS1 => ?_)
  subst hw
  exact kk H1 locs1 ⟨by rw [← ht]; exact hB.1, d2_k Z hQ hk1, hS1⟩
theorem kq {y : MethodName} {ws : List Cond} {n index maxL : Nat} {bytes : ByteArray} {ret : Option FieldType} {hh : List (Nat × Nat × Nat × Nat)} {r : Int32} {MC MS : Nat} (hRc : R.cells = MC ∧ R.slots = MS) (X : cX D Y p s m args meth c cc nL RL ret0) (Z : dZ A ad bd s) (hH : d2 D Y A ad bd mu nu s H locs)
    (hM : vx_Met l y ws rmL (va_Pc As (fun U => U.heap.size = H.size ∧ lZ bd H.size U ∧ cB D Y bd nu U)) (va_Qi (fun (r9 : Int32) (_ : Unit) => r9 = r) (fun _ t9 => cB D Y bd nu' t9) (cA bd H.size)) (vx_X (fun (_ : Unit) => False) (fun _ _ _ => True) (cA bd H.size)) 3 18 (cA bd H.size))
    (cw : vx_CSW R s args RL index y bytes maxL ret hh ws rmL 3 18 n) (hn : As.length = n) (hls : ls.size = nL) (hst : st = As.reverse ++ rest) (hrest : (rest.map fun v => v.category).sum ≤ 8) (hdg : decode cc pc = .ok (.invokestatic index, 3)) (hc : cells + 3 ≤ MC ∧ slots + 18 ≤ MS)
    (kk : ∀ (H1 : Heap) (locs1 : List Loc), d2 D Y A ad bd mu nu' s H1 locs1 → W p l e R s m args below meth c H1 locs1 (cells + 3) (slots + 18) Q (F0 m (pc + 3) ls (.int r :: rest))) :
    W p l e R s m args below meth c H locs cells slots Q (F0 m pc ls st) := ko (ad := bd) (bd := ad) hRc X (dZ_w Z) (d2_w hH) hM cw hn hls hst hrest hdg hc (fun H1 locs1 h => kk H1 locs1 (d2_w h))
/-- a call of one of the law's own walks over the first -/
theorem kbo {y : MethodName} {ws : List Cond} {rm : Room} {n index maxL mc ms : Nat} {bytes : ByteArray} {ret : Option FieldType} {r : Int32} {MC MS : Nat} (hRc : R.cells = MC ∧ R.slots = MS) (X : cX D Y p s m args meth c cc nL RL ret0) (Z : dZ A ad bd s) (hH : d2 D Y A ad bd mu nu s H locs)
    (hM : Met l y ws rm (va_Pc As (fun U => U.heap.size = H.size ∧ lZ ad H.size U ∧ cB D Y ad mu U)) (va_Qi (fun (r9 : Int32) (_ : Unit) => r9 = r) (fun _ t9 => cB D Y ad mu' t9) (cA ad H.size)) mc ms (cA ad H.size))
    (cw : CallB R s args RL index y bytes maxL ret ws rm mc ms n ∧ (Cond.static y).before args s = true) (hn : As.length = n) (hls : ls.size = nL) (hst : st = As.reverse ++ rest) (hrest : (rest.map fun v => v.category).sum ≤ 8) (hdg : decode cc pc = .ok (.invokestatic index, 3)) (hc : cells + mc ≤ MC ∧ slots + ms ≤ MS)
    (kk : ∀ (H1 : Heap) (locs1 : List Loc), d2 D Y A ad bd mu' nu s H1 locs1 → W p l e R s m args below meth c H1 locs1 (cells + mc) (slots + ms) Q (F0 m (pc + 3) ls (.int r :: rest))) :
    W p l e R s m args below meth c H locs cells slots Q (F0 m pc ls st) := by
  obtain ⟨hP, hQ, hS⟩ := hH
  have hA := d2_A Z hS
  refine va_calli (va_runS X.1 hM cw ⟨lZ_bl, fun U hU hW => ⟨rfl, by rw [hU], ⟨zx_at Z.1.1 hW (fun a h1 h2 => by rw [hU]; exact hS.2.1 a h1 h2) hA, zn_m hW.alike Z.1.2⟩, by rw [hU]; exact hP, va_K.moved hW.alike X.2.2.2⟩⟩ (g := F0 m pc ls st) rfl hn hls hst (lv_room hrest) hdg (by rw [hRc.1, hRc.2]; exact hc)) hS (fun q _ h => hA q h) hA (fun r9 u t9 H1 locs1 ht hvm hw hB hz1 hk1 hS1 => ?_)
  subst hw
  exact kk H1 locs1 ⟨by rw [← ht]; exact hB.1, d2_k Z hQ hk1, hS1⟩
theorem kbq {y : MethodName} {ws : List Cond} {rm : Room} {n index maxL mc ms : Nat} {bytes : ByteArray} {ret : Option FieldType} {r : Int32} {MC MS : Nat} (hRc : R.cells = MC ∧ R.slots = MS) (X : cX D Y p s m args meth c cc nL RL ret0) (Z : dZ A ad bd s) (hH : d2 D Y A ad bd mu nu s H locs)
    (hM : Met l y ws rm (va_Pc As (fun U => U.heap.size = H.size ∧ lZ bd H.size U ∧ cB D Y bd nu U)) (va_Qi (fun (r9 : Int32) (_ : Unit) => r9 = r) (fun _ t9 => cB D Y bd nu' t9) (cA bd H.size)) mc ms (cA bd H.size))
    (cw : CallB R s args RL index y bytes maxL ret ws rm mc ms n ∧ (Cond.static y).before args s = true) (hn : As.length = n) (hls : ls.size = nL) (hst : st = As.reverse ++ rest) (hrest : (rest.map fun v => v.category).sum ≤ 8) (hdg : decode cc pc = .ok (.invokestatic index, 3)) (hc : cells + mc ≤ MC ∧ slots + ms ≤ MS)
    (kk : ∀ (H1 : Heap) (locs1 : List Loc), d2 D Y A ad bd mu nu' s H1 locs1 → W p l e R s m args below meth c H1 locs1 (cells + mc) (slots + ms) Q (F0 m (pc + 3) ls (.int r :: rest))) :
    W p l e R s m args below meth c H locs cells slots Q (F0 m pc ls st) := kbo (ad := bd) (bd := ad) hRc X (dZ_w Z) (d2_w hH) hM cw hn hls hst hrest hdg hc (fun H1 locs1 h => kk H1 locs1 (d2_w h))
/-- same, called -/
theorem dS_bl {sz : Nat} : FrameBlind (va_Pc As (fun U => U.heap.size = sz ∧ (zx (cA2 ad bd sz) U ∧ zn U) ∧ cB D Y ad mu U ∧ va_P D vwCl (cwW Y bd nu) U.heap)) := fun a U g mk h => ⟨h.1, h.2.1, ⟨zx_call h.2.2.1.1, zn_m (u := U) (U := U.calling g mk a) (Vm.Alike.refl U.vm) h.2.2.1.2⟩, ⟨h.2.2.2.1.1, va_K.moved (u := U) (U := U.calling g mk a) (Vm.Alike.refl U.vm) h.2.2.2.1.2⟩, h.2.2.2.2⟩
theorem kbs {y : MethodName} {ws : List Cond} {rm : Room} {n index maxL mc ms : Nat} {bytes : ByteArray} {ret : Option FieldType} {r : Int32} {MC MS : Nat} (hRc : R.cells = MC ∧ R.slots = MS) (X : cX D Y p s m args meth c cc nL RL ret0) (Z : dZ A ad bd s) (hH : d2 D Y A ad bd mu nu s H locs)
    (hM : Met l y ws rm (va_Pc As (fun U => U.heap.size = H.size ∧ (zx (cA2 ad bd H.size) U ∧ zn U) ∧ cB D Y ad mu U ∧ va_P D vwCl (cwW Y bd nu) U.heap)) (va_Qi (fun (r9 : Int32) (_ : Unit) => r9 = r) (fun _ t9 => cB D Y ad mu t9 ∧ va_P D vwCl (cwW Y bd nu) t9.heap) (cA2 ad bd H.size)) mc ms (cA2 ad bd H.size))
    (cw : CallB R s args RL index y bytes maxL ret ws rm mc ms n ∧ (Cond.static y).before args s = true) (hn : As.length = n) (hls : ls.size = nL) (hst : st = As.reverse ++ rest) (hrest : (rest.map fun v => v.category).sum ≤ 8) (hdg : decode cc pc = .ok (.invokestatic index, 3)) (hc : cells + mc ≤ MC ∧ slots + ms ≤ MS)
    (kk : ∀ (H1 : Heap) (locs1 : List Loc), d2 D Y A ad bd mu nu s H1 locs1 → W p l e R s m args below meth c H1 locs1 (cells + mc) (slots + ms) Q (F0 m (pc + 3) ls (.int r :: rest))) :
    W p l e R s m args below meth c H locs cells slots Q (F0 m pc ls st) := by
  obtain ⟨hP, hQ, hS⟩ := hH
  have hA : ∀ q, cA2 ad bd H.size q → A q := fun q h => h.elim (d2_A Z hS q) (fun ⟨j, hj, e⟩ => by rw [e]; exact Z.2.2.2.2 j hj)
  refine va_calli (va_runS X.1 hM cw ⟨dS_bl, fun U hU hW => ⟨rfl, by rw [hU], ⟨zx_at Z.1.1 hW (fun a h1 h2 => by rw [hU]; exact hS.2.1 a h1 h2) hA, zn_m hW.alike Z.1.2⟩, ⟨by rw [hU]; exact hP, va_K.moved hW.alike X.2.2.2⟩, by rw [hU]; exact hQ⟩⟩ (g := F0 m pc ls st) rfl hn hls hst (lv_room hrest) hdg (by rw [hRc.1, hRc.2]; exact hc)) hS (fun q _ h => hA q h) hA (fun r9 u t9 H1 locs1 ht hvm hw hB hz1 hk1 hS1 => ?_)
  subst hw
  exact kk H1 locs1 ⟨by rw [← ht]; exact hB.1.1, by rw [← ht]; exact hB.2, hS1⟩
end TwoRails
/-! the script's numbers -/
def cellV (L : Nat) (xs : Nat → Int32) (k : Nat) : Int32 := (if k < L then xs k else 46337 * (nI k + 37) + 71) &&& 2147483647
theorem and_nn (x : Int32) : 0 ≤ (x &&& 2147483647).toInt := by
  have h : (x &&& 2147483647).toBitVec.toNat < 2147483648 := by
    rw [Int32.toBitVec_and, BitVec.toNat_and]
    have e : (2147483647 : Int32).toBitVec.toNat = 2147483647 := rfl
    rw [e]
    exact Nat.lt_succ_of_le Nat.and_le_right
  have e2 : (x &&& 2147483647).toInt = ((x &&& 2147483647).toBitVec.toNat : Int) := BitVec.toInt_eq_toNat_of_lt (by omega)
  rw [e2]
  omega
def rm6_cell : Room := { frames := 0, cells := 0, slots := 0, locals := 0 }
set_option maxRecDepth 100000 in
set_option maxHeartbeats 4000000 in
theorem c6_cell (l : Launch) {b L k : Nat} {xs : Nat → Int32} (hL : L ≤ 260) (hk : k < 100) : Met l yL_cell uL_cell rm6_cell (va_Pc [.ref b, .int (nI k)] (fun U => va_X b L xs U U.heap)) (QcRead (cellV L xs k)) 0 0 (fun _ => False) := by
  refine Met.ofW (cc := cL_cell) (maxL := 2) (ret := (some .int)) (by decide) rfl ?_
  intro p e s m args below meth c s₁ B hml hv
  obtain ⟨rfl, hX⟩ := hv
  have hx := B.exec
  have hb := B.bytes
  have hr := B.returns
  have hlk := B.notSynchronized
  have hown : s.vm.findClass RL = some m.cls := findClass_of_methodNamed B.named
  have hts : ∀ w ∈ gw, w.before ([.ref b, .int (nI k)] : List Value).toArray s = true := fun w h => atoms_spec (ws := uL_cell) B.pre w (List.mem_cons_of_mem _ h)
  have hl := lv_entry ([.ref b, .int (nI k)]) (n := 2) (Nat.le_of_ble_eq_true rfl)
  rw [lg_entry_eq]
  generalize (lg_sl ([.ref b, .int (nI k)]) ++ List.replicate (2 - (lg_sl ([.ref b, .int (nI k)])).length) Slot.unset).toArray = ls at hl ⊢
  have hl : lv_has ls 2 [(0, .ref b), (1, .int (nI k))] := hl
  have hbl : b < s.heap.size := (Array.getElem?_eq_some_iff.mp hX.choose_spec.1).1
  have hbA : ¬ (fun q : Nat => s.heap.size ≤ q) b := Nat.not_le.mpr hbl
  have hS : va_S (fun q : Nat => s.heap.size ≤ q) s.heap s.heap [] := va_S.rf
  have eL : Int32.ofNat L ≤ nI k ↔ L ≤ k := n_le (a := L) (by omega) (by omega)
  refine lv_iload_n hx hb dL_cell_0 rfl (lv_at hl 1 rfl) ?_
  refine lv_aload_n hx hb dL_cell_1 rfl (lv_at hl 0 rfl) ?_
  refine va_slen hx hb hX hbl hbA hS dL_cell_2 ?_
  refine lv_icmp_ge (tgt := 12) hx hb dL_cell_3 (by decide) (fun c1 => ?_) (fun c1 => ?_)
  · refine lv_ldc hx hb hown (hts _ gkL_7) dL_cell_12 ?_
    refine lv_iload_n hx hb dL_cell_14 rfl (lv_at hl 1 rfl) ?_
    refine lv_bipush (v := 37) hx hb dL_cell_15 (by decide) ?_
    refine lv_iadd hx hb dL_cell_17 ?_
    refine lv_imul hx hb dL_cell_18 ?_
    refine lv_bipush (v := 71) hx hb dL_cell_19 (by decide) ?_
    refine lv_iadd hx hb dL_cell_21 ?_
    refine lv_ldc hx hb hown (hts _ gkL_8) dL_cell_22 ?_
    refine lv_iand hx hb dL_cell_24 ?_
    have ev : cellV L xs k = (46337 * (nI k + 37) + 71) &&& 2147483647 := by unfold cellV; rw [if_neg (by have := eL.mp c1; omega)]
    rw [ev]
    exact rd_i hx hb hr hlk dL_cell_25
  · have hkL : k < L := by rw [eL] at c1; omega
    refine lv_aload_n hx hb dL_cell_6 rfl (lv_at hl 0 rfl) ?_
    refine lv_iload_n hx hb dL_cell_7 rfl (lv_at hl 1 rfl) ?_
    refine va_sld hx hb hX hbl hbA hS (vp_in_nI hkL (by omega)) dL_cell_8 ?_
    refine lv_goto (tgt := 22) hx hb dL_cell_9 (by decide) ?_
    refine lv_ldc hx hb hown (hts _ gkL_8) dL_cell_22 ?_
    refine lv_iand hx hb dL_cell_24 ?_
    have ev : cellV L xs k = xs (nI k).toNatClampNeg &&& 2147483647 := by unfold cellV; rw [if_pos hkL, cl_n (by omega)]
    rw [ev]
    exact rd_i hx hb hr hlk dL_cell_25
theorem cX_bl {b L : Nat} {xs : Nat → Int32} {As : List Value} : FrameBlind (va_Pc As (fun U => va_X b L xs U U.heap)) := fun a U g mk h => ⟨h.1, va_X.moved (u := U) (U := U.calling g mk a) (Vm.Alike.refl U.vm) h.2⟩
