/-! the law's helpers: a call of the class within try and catch; the row of one long beside the class's world -/
def hA (ad : Nat → Nat) (o sz : Nat) : Nat → Prop := fun q => cA ad sz q ∨ q = o
def oW (cL : ClassId) (o : Nat) (f : Nat → Int64) : va_W := [(o, .inl (cL, 1, .inr (.inl f)))]
def zn (U : State) : Prop := va_Nc "java/lang/IllegalArgumentException" "java/lang/IndexOutOfBoundsException" U ∧ va_Nc "java/lang/IllegalStateException" "java/lang/IndexOutOfBoundsException" U ∧ va_Nc "java/lang/IllegalStateException" "java/lang/IllegalArgumentException" U
theorem zn_m {u U : State} (hvm : u.vm.Alike U.vm) (h : zn u) : zn U := ⟨h.1.moved hvm, h.2.1.moved hvm, h.2.2.moved hvm⟩
def hB (D : va_G) (Y : cYt) (ad : Nat → Nat) (cL : ClassId) (o : Nat) (mu : Nat → Nat → Int32) (f : Nat → Int64) (U : State) : Prop := cB D Y ad mu U ∧ va_P D vwCl (oW cL o f) U.heap ∧ va_K D vwCl [(cL, .long)] U
def hZ (ad : Nat → Nat) (o sz : Nat) (U : State) : Prop := zx (hA ad o sz) U ∧ zn U
def hO (ad : Nat → Nat) (o sz : Nat) : Prop := o < sz ∧ ∀ i, i < 157 → ad i ≠ o
theorem hO_n {ad : Nat → Nat} {o sz : Nat} (h : hO ad o sz) : ¬ cA ad sz o := fun q => q.elim (fun ⟨i, hi, e⟩ => h.2 i hi e.symm) (fun q => absurd h.1 (Nat.not_lt.mpr q))
theorem oW_o {cL : ClassId} {o k : Nat} {f : Nat → Int64} {q : Nat × va_E} (h : (oW cL o f)[k]? = some q) : q.1 = o := by
  cases k with
  | zero => cases h; rfl
  | succ k => cases h
theorem vP_c {D : va_G} {cl : List vw_C} {x : Nat × va_E} {ws : va_W} {H : Heap} (a : va_at D cl x H) (b : va_P D cl ws H) : va_P D cl (x :: ws) H := fun k q hk => by
  cases k with
  | zero => cases hk; exact a
  | succ k => exact b k q hk
theorem vD_c {A : Nat → Prop} {x : Nat × va_E} {ws : va_W} (a : A x.1) (h : ∀ (k : Nat) (q : Nat × va_E), ws[k]? = some q → q.1 ≠ x.1) (b : va_D A ws) : va_D A (x :: ws) := by
  refine ⟨fun i j p q h1 h2 e => ?_, fun k q hk => ?_⟩
  · cases i with
    | zero =>
      cases j with
      | zero => rfl
      | succ j => cases h1; exact absurd e.symm (h j q h2)
    | succ i =>
      cases j with
      | zero => cases h2; exact absurd e (h i p h1)
      | succ j => exact congrArg (· + 1) (b.1 i j p q h1 h2 e)
  · cases k with
    | zero => cases hk; exact a
    | succ k => exact b.2 k q hk
theorem cW_q {Y : cYt} {ad : Nat → Nat} {mu : Nat → Nat → Int32} {k : Nat} {q : Nat × va_E} (h : (cwW Y ad mu)[k]? = some q) : ∃ i, i < 157 ∧ q.1 = ad i := by
  unfold cwW at h
  rw [List.getElem?_map] at h
  by_cases hk : k < 157
  · rw [List.getElem?_range hk] at h
    exact ⟨k, hk, by rw [← Option.some.inj h]⟩
  · rw [List.getElem?_eq_none (by rw [List.length_range]; omega)] at h
    cases h
theorem hc_bl {D : va_G} {Y : cYt} {ad : Nat → Nat} {mu : Nat → Nat → Int32} {As : List Value} {sz : Nat} : FrameBlind (va_Pc As (fun U => U.heap.size = sz ∧ zx (cA ad sz) U ∧ cB D Y ad mu U)) := fun a U g mk h => ⟨h.1, h.2.1, zx_call h.2.2.1, h.2.2.2.1, va_K.moved (u := U) (U := U.calling g mk a) (Vm.Alike.refl U.vm) h.2.2.2.2⟩
def rmL : Room := { frames := 8, cells := 3, slots := 18, locals := 170 }
theorem hl_iw {p : Program} {l : Launch} {e : Env} {R : Room} {s : State} {m : MethodId} {args : Array Value} {below : List Frame} {meth : Method} {c : Code} {cc : ByteArray} {D : va_G} {Y : cYt} {ad : Nat → Nat} {mu : Nat → Nat → Int32} {cL : ClassId} {o : Nat} {g : Nat → Int64} {H : Heap} {locs : List Loc} {cells slots pc : Nat} {ls : Array Slot} {kc : Int32} {xr : Int64} {XC : String → State → State → Prop} (hx : p.tables.exec = Jvm.exec) (hb : c.code = cc) (hr : meth.sig.returnType = some .int) (hlk : meth.locks = false) (hK : va_K D vwCl (cTys Y) s) (hKo : va_K D vwCl [(cL, .long)] s) (hP : va_P D vwCl (cwW Y ad mu) H) (hPo : va_P D vwCl (oW cL o g) H) (hS : va_S (hA ad o s.heap.size) s.heap H locs) (h1 : cells ≤ 3) (h2 : slots ≤ 18) (hv : kc = 0 → g 0 = xr) (hdg : decode cc pc = .ok (.ireturn, 1)) :
    W p l e R s m args below meth c H locs cells slots (vx_MQ below (va_Qi (fun (r9 : Int32) (g : Nat → Int64) => r9 = kc ∧ (kc = 0 → g 0 = xr)) (fun g t9 => hB D Y ad cL o mu g t9) (hA ad o s.heap.size)) XC args s 3 18 (hA ad o s.heap.size)) (F0 m pc ls [.int kc]) :=
  W.widen (k := 3) (n := 18) h1 h2 (vx_ret (W.iret (v := kc) hx hb hr (fun t ht hW => ⟨⟨kc, g, rfl, ⟨rfl, hv⟩, ⟨by rw [ht]; exact hP, va_K.moved hW.alike hK⟩, by rw [ht]; exact hPo, va_K.moved hW.alike hKo⟩, hS.F ht⟩) hS.2.2 hdg hlk))
