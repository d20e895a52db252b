/-! a block of cells, made one behind another: what a constructor has laid so far; rows that lay one more cell, or write in one -/
def eu (E : Nat → va_E) (k : Nat) (x : va_E) : Nat → va_E := fun r => if r = k then x else E r
theorem eu_s {E : Nat → va_E} {k : Nat} {x : va_E} : eu E k x k = x := if_pos rfl
theorem eu_n {E : Nat → va_E} {k r : Nat} {x : va_E} (h : r ≠ k) : eu E k x r = E r := if_neg h
def bH (D : va_G) (E : Nat → va_E) (n k : Nat) (s : State) (H : Heap) (locs : List Loc) : Prop := (H.size = n + k ∧ ∀ r, r < k → va_at D vwCl (n + r, E r) H) ∧ va_S (fun q => n ≤ q) s.heap H locs
def ej (E : Nat → va_E) (k : Nat) (G : Nat → va_E) : Nat → va_E := fun r => if r < k then E r else G (r - k)
theorem ej_l {E G : Nat → va_E} {k r : Nat} (h : r < k) : ej E k G r = E r := if_pos h
theorem ej_h {E G : Nat → va_E} {k r : Nat} (h : k ≤ r) : ej E k G r = G (r - k) := if_neg (Nat.not_lt.mpr h)
theorem bH_e {D : va_G} {E G : Nat → va_E} {n k : Nat} {s : State} {H : Heap} {locs : List Loc} (h : bH D E n k s H locs) (e : ∀ r, r < k → E r = G r) : bH D G n k s H locs := ⟨⟨h.1.1, fun r hr => by rw [← e r hr]; exact h.1.2 r hr⟩, h.2⟩
theorem vP_1 {D : va_G} {cl : List vw_C} {x : Nat × va_E} {H : Heap} (h : va_at D cl x H) : va_P D cl [x] H := fun k q hk => by
  cases k with
  | zero => cases hk; exact h
  | succ k => cases hk
def nx (U : State) : Prop := va_Nw (.methodLinkNest RX3 33 yX0_init RX4) U ∧ va_Nw (.methodLinkNest RX4 36 yX2_init RX4) U ∧ va_AO RX0 U ∧ va_AO RX3 U
theorem nx_w {s U : State} (hW : s.WarmedH U.vm) (h : nx s) : nx U := ⟨va_Nw.warmM hW h.1, va_Nw.warmM hW h.2.1, va_AO.moved hW.alike h.2.2.1, va_AO.moved hW.alike h.2.2.2⟩
theorem nx_c {a : Array Value} {U : State} {g : JFrame} {mk : MethodId} (h : nx U) : nx (U.calling g mk a) := ⟨va_Nw.same rfl (u := U) rfl h.1, va_Nw.same rfl (u := U) rfl h.2.1, va_AO.moved (u := U) (U := U.calling g mk a) (Vm.Alike.refl U.vm) h.2.2.1, va_AO.moved (u := U) (U := U.calling g mk a) (Vm.Alike.refl U.vm) h.2.2.2⟩
section Block
variable {p : Program} {l : Launch} {e : Env} {R : Room} {s : State} {m : MethodId} {args : Array Value} {below : List Frame} {meth : Method} {c : Code} {cc : ByteArray} {D : va_G} {tys : List (ClassId × FieldType)} {E : Nat → va_E} {n k : Nat} {H : Heap} {locs : List Loc} {cells slots pc : Nat} {Q : State → Prop} {ls : Array Slot} {rest : List Value}
theorem b_new (hx : p.tables.exec = Jvm.exec) (hb : c.code = cc) {own C : String} {T : u_T} {N ci index : Nat} (hts : ∀ w ∈ gw, w.before args s = true) (hin : ∀ w ∈ u_ws C T N, w ∈ gw) (ty : Nat → FieldType) (hty : ∀ k, k < N → parseFieldDescriptor (T k).2.2.1 = some (ty k)) (hown : s.vm.findClass own = some m.cls) (hcl : (Cond.classLink own index C).before args s = true) (hinst : (Cond.instantiable C N).before args s = true) (hini : (Cond.initialized C).before args s = true) (hK : va_K D vwCl tys s) (hH : bH D E n k s H locs) (hc : vwCl[ci]? = some (C, T, N)) {fs : List Value} (hfs : ∀ j, j < N → defaultValue (ty j) = vp_V fs j) (hcells : cells + 1 ≤ R.cells) (hslots : slots + N ≤ R.slots) (hdg : decode cc pc = .ok (.new index, 3))
    (kk : ∀ (H1 : Heap), bH D (eu E k (.inr (ci, fs))) n (k + 1) s H1 locs → W p l e R s m args below meth c H1 locs (cells + 1) (slots + N) Q (F0 m (pc + 3) ls (.ref (n + k) :: rest))) : W p l e R s m args below meth c H locs cells slots Q (F0 m pc ls rest) := by
  obtain ⟨⟨hz, hat⟩, hS⟩ := hH
  have hKn := hK.1 ci _ hc
  refine W.newcK hx hb hown hcl hinst hini rfl hdg hcells hslots hKn.2.1 hz fun H1 kC hkC e1 z1 o1 => ?_
  have hS1 := hS.1
  refine kk H1 ⟨⟨by omega, fun r hr => ?_⟩, ⟨by omega, fun q h1 h2 => (o1 q (by omega)).trans (hS.2.1 q h1 h2), hS.2.2⟩⟩
  by_cases e : r = k
  · subst e
    rw [eu_s]
    exact ⟨_, hc, (u_born ty hts hin hKn hkC e1 hty).to hfs⟩
  · rw [eu_n e]
    exact (hat r (by omega)).kept (o1 (n + r) (by omega))
theorem b_newa (hx : p.tables.exec = Jvm.exec) (hb : c.code = cc) {atype : ArrayType} (harr : (Cond.arrayClass (newarray.typeOf atype)).before args s = true) {ty : FieldType} (hty : newarray.typeOf atype = ty) {cA : ClassId} (hra : s.vm.findClass ("[" ++ ty.toString) = some cA) (hH : bH D E n k s H locs) {i : Int32} {N : Nat} {a0 : vp_A} (ha : ∀ cA : ClassId, vp_cell cA a0 = arrV cA N (fun _ => defaultValue ty)) (hn : ¬ i < 0) (hN : i.toNatClampNeg = N) (hbytes : N * componentBytes ty ≤ 536870912) (hcells : cells + 1 ≤ R.cells) (hslots : slots + N ≤ R.slots) (hdg : decode cc pc = .ok (.newarray atype, 2))
    (kk : ∀ (H1 : Heap), bH D (eu E k (.inl (cA, a0))) n (k + 1) s H1 locs → W p l e R s m args below meth c H1 locs (cells + 1) (slots + N) Q (F0 m (pc + 2) ls (.ref (n + k) :: rest))) : W p l e R s m args below meth c H locs cells slots Q (F0 m pc ls (.int i :: rest)) := by
  subst hty
  obtain ⟨⟨hz, hat⟩, hS⟩ := hH
  refine va_newaK hx hb harr rfl hdg rfl hn hN hbytes hcells hslots hz fun H1 cB e1 z1 o1 hAr hNm => ?_
  obtain rfl : cA = cB := Option.some.inj (hra.symm.trans hNm)
  have hS1 := hS.1
  refine kk H1 ⟨⟨by omega, fun r hr => ?_⟩, ⟨by omega, fun q h1 h2 => (o1 q (by omega)).trans (hS.2.1 q h1 h2), hS.2.2⟩⟩
  by_cases e : r = k
  · subst e
    rw [eu_s]
    show H1[n + r]? = some (vp_cell _ _)
    rw [ha]
    exact e1
  · rw [eu_n e]
    exact (hat r (by omega)).kept (o1 (n + r) (by omega))
theorem b_newq (hx : p.tables.exec = Jvm.exec) (hb : c.code = cc) {own C : String} {index : Nat} (hown : s.vm.findClass own = some m.cls) (hclink : (Cond.classLink own index C).before args s = true) (hover : va_AO C s) {cA : ClassId} (hra : s.vm.findClass ("[" ++ (FieldType.object C).toString) = some cA) (hH : bH D E n k s H locs) {i : Int32} {N : Nat} (hn : ¬ i < 0) (hN : i.toNatClampNeg = N) (hbytes : N * 4 ≤ 536870912) (hcells : cells + 1 ≤ R.cells) (hslots : slots + N ≤ R.slots) (hdg : decode cc pc = .ok (.anewarray index, 3))
    (kk : ∀ (H1 : Heap), bH D (eu E k (.inl (cA, N, .inr (.inr (.inr (.inr (fun _ => none))))))) n (k + 1) s H1 locs → W p l e R s m args below meth c H1 locs (cells + 1) (slots + N) Q (F0 m (pc + 3) ls (.ref (n + k) :: rest))) : W p l e R s m args below meth c H locs cells slots Q (F0 m pc ls (.int i :: rest)) := by
  subst hN
  obtain ⟨⟨hz, hat⟩, hS⟩ := hH
  refine W.anew hx hb hown hclink (va_AO.use hover) rfl hdg rfl hn hbytes hcells hslots fun cB kA comp f1 f2 f3 f4 => ?_
  obtain rfl : cA = cB := Option.some.inj (hra.symm.trans f1)
  generalize hH1 : H.push ({ cls := cA, slots := Array.replicate i.toNatClampNeg .null, vm := .none } : Cell) = H1
  have z1 : H1.size = H.size + 1 := by rw [← hH1, Array.size_push]
  have e1 : H1[H.size]? = some (arrV cA i.toNatClampNeg (fun _ => .null)) := by rw [← hH1, Array.getElem?_push_size, ← arrV_new]
  have o1 : ∀ q : Nat, q < H.size → H1[q]? = H[q]? := fun q hq => by rw [← hH1, Array.getElem?_push, if_neg (Nat.ne_of_lt hq)]
  have hS1 := hS.1
  rw [show H.size = n + k from hz]
  refine kk H1 ⟨⟨by omega, fun r hr => ?_⟩, ⟨by omega, fun q h1 h2 => (o1 q (by omega)).trans (hS.2.1 q h1 h2), hS.2.2⟩⟩
  by_cases e : r = k
  · subst e
    rw [eu_s]
    show H1[n + r]? = some (vp_cell _ _)
    rw [← hz]
    exact e1
  · rw [eu_n e]
    exact (hat r (by omega)).kept (o1 (n + r) (by omega))
/-- a cell of the block is written -/
theorem b_put {H1 : Heap} {r0 j : Nat} {x : va_E} (hH : bH D E n k s H locs) (hr0 : r0 < k) (z1 : H1.size = H.size) (o1 : ∀ q, q ≠ n + r0 → H1[q]? = H[q]?) (h1 : va_at D vwCl (n + r0, x) H1) : bH D (eu E r0 x) n k s H1 (locs ++ [⟨n + r0, j⟩]) := by
  obtain ⟨⟨hz, hat⟩, hS⟩ := hH
  refine ⟨⟨by omega, fun r hr => ?_⟩, hS.put z1 o1 (Nat.le_add_right n r0)⟩
  by_cases e : r = r0
  · subst e
    rw [eu_s]
    exact h1
  · rw [eu_n e]
    exact (hat r hr).kept (o1 (n + r) (by omega))
theorem b_putF (hx : p.tables.exec = Jvm.exec) (hb : c.code = cc) {own C : String} {T : u_T} {N ci index : Nat} (hts : ∀ w ∈ gw, w.before args s = true) (hin : ∀ w ∈ u_ws C T N, w ∈ gw) (ty0 : Nat → FieldType) (hty : ∀ k, k < N → parseFieldDescriptor (T k).2.2.1 = some (ty0 k)) (hnm : ∀ a, a < N → ∀ b, b < N → a ≠ b → (T a).2.1 ≠ (T b).2.1) (hown : s.vm.findClass own = some m.cls) (hK : va_K D vwCl tys s) (hH : bH D E n k s H locs) (r0 : Nat) (hr0 : r0 < k) {fs : List Value} (he : E r0 = .inr (ci, fs)) (hc : vwCl[ci]? = some (C, T, N)) (j : Nat) (hj : j < N) (hlink : Cond.fieldLink own index own (T j).2.1 (T j).2.2.1 ∈ gw) (hTo : (T j).1 = own) (hfin : (T j).2.2.2 = true) (hin2 : meth.name = "<init>") {ty : FieldType} {a : Nat} (hd : parseFieldDescriptor (T j).2.2.1 = some ty) (hnr : narrow ty (.ref a) = .ref a) (hfit : fits ty (.ref a) = true) (hl : j < fs.length) (hdg : decode cc pc = .ok (.putfield index, 3))
    (kk : ∀ (H1 : Heap) (locs1 : List Loc), bH D (eu E r0 (.inr (ci, fs.set j (.ref a)))) n k s H1 locs1 → W p l e R s m args below meth c H1 locs1 cells slots Q (F0 m (pc + 3) ls rest)) : W p l e R s m args below meth c H locs cells slots Q (F0 m pc ls (.ref a :: .ref (n + r0) :: rest)) := by
  have hap := va_apart (own := own) hts hin ty0 hty hnm hK hc
  have hat0 := hH.1.2 r0 hr0
  rw [he] at hat0
  obtain ⟨r, h1, cell, q1, q2, q3, q4⟩ := hat0
  have hr : r = (C, T, N) := Option.some.inj (h1.symm.trans hc)
  subst hr
  obtain ⟨hS, hfc, kC, hkC, hkind⟩ := hK.1 ci _ hc
  obtain ⟨cf, kf, fi, f, hi, hsl⟩ := hS j hj
  have hlay := hts _ (hin _ (u_in_lay hj))
  unfold u_lay at hlay
  rw [if_pos hfin] at hlay
  have hst := (u_facts hfc hkC (u_lays hts hin hj) hi).1
  have hcf : m.cls = cf := by
    obtain ⟨_, _, c', _, _, _, -, -, hf', -, -, -, hown2, -⟩ := Cond.laysFinal_spec hlay
    have e1 : c' = cf := by have := hi.symm.trans hf'; simp at this; exact this.1.symm
    rw [hTo] at hown2
    rw [← e1]; exact Option.some.inj (hown.symm.trans hown2)
  have h6 := u_fits hfc hkC hkind (Or.inr hlay) hi hd hnr hfit
  have hi2 : s.fieldFound? own (T j).2.1 (T j).2.2.1 = some (cf, kf, fi, f) := by rw [← hTo]; exact hi
  refine W.putFinK hx hb hown (hts _ hlink) hi2 hst hcf hin2 (by rw [q2]; exact h6) q1 q3 (by rw [hsl]; exact k2_hasslot (q4 j hj)) rfl rfl hdg fun H' e1 e2 e3 => ?_
  rw [hsl] at e1 ⊢
  exact kk H' _ (b_put hH hr0 e2 e3 ⟨_, hc, t_OB.to (V := updV (vp_V fs) j (.ref a)) ⟨_, e1, q2, q3, t_set q4 hap hj (.ref a)⟩ (fun z _ => vp_updV_set hl (.ref a) z)⟩)
theorem b_iast (hx : p.tables.exec = Jvm.exec) (hb : c.code = cc) {cA : ClassId} (hAr : ArrOfT s cA .int) (hH : bH D E n k s H locs) (r0 : Nat) (hr0 : r0 < k) {N : Nat} {f : Nat → Int32} (he : E r0 = .inl (cA, N, .inl f)) {i x : Int32} (hin : vp_in i N) (hdg : decode cc pc = .ok (.iastore, 1))
    (kk : ∀ (H1 : Heap) (locs1 : List Loc), bH D (eu E r0 (.inl (cA, N, .inl (upd f i.toNatClampNeg x)))) n k s H1 locs1 → W p l e R s m args below meth c H1 locs1 cells slots Q (F0 m (pc + 1) ls rest)) : W p l e R s m args below meth c H locs cells slots Q (F0 m pc ls (.int x :: .int i :: .ref (n + r0) :: rest)) := by
  have hat0 := hH.1.2 r0 hr0
  rw [he] at hat0
  refine W.iast hx hb hat0 (hAr N (fun j => .int (f j))) (fun q => by cases q) (by show ¬ (i < 0 ∨ (arrV _ _ _).slots.size ≤ _); rw [arrV_size]; exact hin) rfl rfl hdg fun H1 e z oq => ?_
  refine kk H1 _ (b_put hH hr0 z oq ?_)
  show H1[n + r0]? = some (vp_cell _ _)
  rw [e]
  rw [vp_cell_i, vp_cell_i, arrV_store]
  congr 2
  funext q
  by_cases hq : q = i.toNatClampNeg
  · subst hq
    simp [updV, upd]
  · simp [updV, upd, hq]
theorem b_aast (hx : p.tables.exec = Jvm.exec) (hb : c.code = cc) {ci : Nat} {r : vw_C} (hc : vwCl[ci]? = some r) (hK : va_K D vwCl tys s) {cA : ClassId} (hRA : va_RA s cA (.object r.1)) (hH : bH D E n k s H locs) (r0 r1 : Nat) (hr0 : r0 < k) (hr1 : r1 < k) {N : Nat} {f : Nat → Option Nat} {vs : List Value} (he : E r0 = .inl (cA, N, .inr (.inr (.inr (.inr f))))) (hv : E r1 = .inr (ci, vs)) {i : Int32} (hin : vp_in i N) (hdg : decode cc pc = .ok (.aastore, 1))
    (kk : ∀ (H1 : Heap) (locs1 : List Loc), bH D (eu E r0 (.inl (cA, N, .inr (.inr (.inr (.inr (va_up f i.toNatClampNeg (some (n + r1)))))))) ) n k s H1 locs1 → W p l e R s m args below meth c H1 locs1 cells slots Q (F0 m (pc + 1) ls rest)) : W p l e R s m args below meth c H locs cells slots Q (F0 m pc ls (.ref (n + r1) :: .int i :: .ref (n + r0) :: rest)) := by
  have hat0 := hH.1.2 r0 hr0
  have hat1 := hH.1.2 r1 hr1
  rw [he] at hat0
  rw [hv] at hat1
  have hlt : i.toNatClampNeg < N := Nat.not_le.mp fun q => hin (Or.inr q)
  have h0 : ¬ i < 0 := fun q => hin (Or.inl q)
  obtain ⟨r', hr', cellV, g1, g2, g3, -⟩ := hat1
  have hcls := (hK.1 ci r hc).2
  obtain ⟨kA, comp, k1, k2, k3, -⟩ := hRA
  have hcomp : comp = D.1 ci := Option.some.inj (k3.symm.trans hcls.1)
  subst hcomp
  obtain ⟨kC, hkC, -⟩ := hcls.2
  refine W.aast hx hb hat0 (fun q h => by cases h) (fun h => by cases h) k1 k2 rfl hkC ⟨h0, by show _ < (arrV _ _ _).slots.size; rw [arrV_size]; exact hlt⟩ g1 (fun q h => by rw [g3] at h; cases h) (by rw [g2]; exact hkC) (by rw [g2]; exact va_assign hcls) rfl rfl hdg fun H1 e z oq => ?_
  refine kk H1 _ (b_put hH hr0 z oq ?_)
  show H1[n + r0]? = some (vp_cell _ _)
  rw [e]
  rw [vp_cell_q, vp_cell_q, arrV_store]
  congr 2
  funext q
  by_cases hq : q = i.toNatClampNeg
  · subst hq
    simp [updV, va_up, va_rf]
  · simp [updV, va_up, hq]
theorem b_get (hx : p.tables.exec = Jvm.exec) (hb : c.code = cc) {own C : String} {T : u_T} {N ci index : Nat} (hts : ∀ w ∈ gw, w.before args s = true) (hin : ∀ w ∈ u_ws C T N, w ∈ gw) (hown : s.vm.findClass own = some m.cls) (hK : va_K D vwCl tys s) (hH : bH D E n k s H locs) (r0 : Nat) (hr0 : r0 < k) {fs : List Value} (he : E r0 = .inr (ci, fs)) (hc : vwCl[ci]? = some (C, T, N)) (j : Nat) (hj : j < N) (hlink : Cond.fieldLink own index own (T j).2.1 (T j).2.2.1 ∈ gw) (hTo : (T j).1 = own) {v : Value} (hv : fs[j]? = some v) (hdg : decode cc pc = .ok (.getfield index, 3))
    (kk : W p l e R s m args below meth c H locs cells slots Q (F0 m (pc + 3) ls (v :: rest))) : W p l e R s m args below meth c H locs cells slots Q (F0 m pc ls (.ref (n + r0) :: rest)) :=
  va_get (D := D) (ws := [(n + r0, E r0)]) hx hb hts hin hown hK (vP_1 (hH.1.2 r0 hr0)) 0 (by rw [he]; rfl) hc j hj (hts _ hlink) (fun x h => by rw [hTo] at h; exact h) hv hdg kk
/-- behind a constructor's call: the callee's block of d cells stands from k on -/
theorem b_join {G : Nat → va_E} {d mc ms : Nat} {st : List Value} {a : Array Value} (hr : va_Run p l e R s m args below meth c H locs cells slots mc ms (F0 m pc ls st) rest (va_Qv (fun _ : Unit => True) (fun _ t9 => t9.heap.size = n + k + d ∧ ∀ r, r < d → va_at D vwCl (n + k + r, G r) t9.heap) (fun q => n + k ≤ q) a) (fun q => n + k ≤ q)) (hH : bH D E n (k + 1) s H locs)
    (kk : ∀ (H1 : Heap) (locs1 : List Loc), bH D (ej E k G) n (k + d) s H1 locs1 → W p l e R s m args below meth c H1 locs1 (cells + mc) (slots + ms) Q (F0 m (pc + 3) ls rest)) : W p l e R s m args below meth c H locs cells slots Q (F0 m pc ls st) := by
  obtain ⟨⟨hz, hat⟩, hS⟩ := hH
  refine va_callv hr hS (fun q _ h => (by omega : n ≤ q)) (fun q (h : n + k ≤ q) => (by omega : n ≤ q)) (fun u t H1 locs1 ht hvm hw hB hz1 hk1 hS1 => ?_)
  obtain ⟨b1, b2⟩ := hB
  rw [ht] at b1 b2
  refine kk H1 locs1 ⟨⟨by omega, fun r hr => ?_⟩, hS1⟩
  by_cases e : r < k
  · rw [ej_l e]
    exact (hat r (by omega)).kept (hk1 (n + r) (by omega) (by omega))
  · rw [ej_h (Nat.not_lt.mp e)]
    have := b2 (r - k) (by omega)
    rw [show n + k + (r - k) = n + r by omega] at this
    exact this
end Block
