/-! pure words that both worlds use: guards of the read-off functions, a vector of a memory -/
def s1 (μ : Nat → Nat → Int32) (k : Nat) (σ : Nat → Int32) : Nat → Nat → Int32 := fun b => if b = k then σ else μ b
theorem s1_k {μ : Nat → Nat → Int32} {k : Nat} {σ : Nat → Int32} : s1 μ k σ k = σ := if_pos rfl
theorem s1_n {μ : Nat → Nat → Int32} {k b : Nat} {σ : Nat → Int32} (h : b ≠ k) : s1 μ k σ b = μ b := if_neg h
theorem s1_same {μ : Nat → Nat → Int32} {k : Nat} : s1 μ k (μ k) = μ := by
  funext b
  by_cases h : b = k
  · subst h; exact s1_k
  · exact s1_n h
theorem s1_s1 {μ : Nat → Nat → Int32} {k : Nat} {σ τ : Nat → Int32} : s1 (s1 μ k σ) k τ = s1 μ k τ := by
  funext b
  by_cases h : b = k
  · subst h; rw [s1_k, s1_k]
  · rw [s1_n h, s1_n h, s1_n h]
/-- the index is in its row -/
def gd {α : Type} (i : Int32) (n : Nat) (x : Option α) : Option α := if i < 0 ∨ n ≤ i.toNatClampNeg then none else x
theorem gd_o {α : Type} {i : Int32} {n : Nat} {x : Option α} {r : α} (h : gd i n x = some r) : vp_in i n ∧ x = some r := by
  unfold gd at h
  by_cases c : i < 0 ∨ n ≤ i.toNatClampNeg
  · rw [if_pos c] at h; cases h
  · rw [if_neg c] at h; exact ⟨c, h⟩
theorem gd_i {α : Type} {i : Int32} {n : Nat} {x : Option α} (h : vp_in i n) : gd i n x = x := if_neg h
/-- a boolean -/
def gz {α : Type} (v : Int32) (x : Option α) : Option α := if v = 0 ∨ v = 1 then x else none
theorem gz_o {α : Type} {v : Int32} {x : Option α} {r : α} (h : gz v x = some r) : (v = 0 ∨ v = 1) ∧ x = some r := by
  unfold gz at h
  by_cases c : v = 0 ∨ v = 1
  · rw [if_pos c] at h; exact ⟨c, h⟩
  · rw [if_neg c] at h; cases h
theorem gz_i {α : Type} {v : Int32} {x : Option α} (h : v = 0 ∨ v = 1) : gz v x = x := if_pos h
/-- a char -/
def gc {α : Type} (v : Int32) (x : Option α) : Option α := if (v.toUInt32 % 65536).toInt32 = v then x else none
theorem gc_o {α : Type} {v : Int32} {x : Option α} {r : α} (h : gc v x = some r) : (v.toUInt32 % 65536).toInt32 = v ∧ x = some r := by
  unfold gc at h
  by_cases c : (v.toUInt32 % 65536).toInt32 = v
  · rw [if_pos c] at h; exact ⟨c, h⟩
  · rw [if_neg c] at h; cases h
theorem gc_i {α : Type} {v : Int32} {x : Option α} (h : (v.toUInt32 % 65536).toInt32 = v) : gc v x = x := if_pos h
theorem bd_o {α β : Type} {x : Option α} {k : α → Option β} {r : β} (h : Option.bind x k = some r) : ∃ t, x = some t ∧ k t = some r := by
  cases x with
  | none => cases h
  | some t => exact ⟨t, rfl, h⟩
theorem it_t {α : Sort _} {c : Prop} {d : Decidable c} {A B r : α} (h : c) (e : @ite α c d A B = r) : A = r := (if_pos h).symm.trans e
theorem it_f {α : Sort _} {c : Prop} {d : Decidable c} {A B r : α} (h : ¬ c) (e : @ite α c d A B = r) : B = r := (if_neg h).symm.trans e
theorem so_i {α : Type} {a b : α} (h : some a = some b) : a = b := Option.some.inj h
/-- loops: more turns than any of them needs -/
def fu : Nat := 1000
theorem nz_z {v : Int32} (h : v = 0 ∨ v = 1) : narrow .boolean (.int v) = .int v := by rcases h with rfl | rfl <;> rfl
theorem fz_z {v : Int32} (h : v = 0 ∨ v = 1) : fits .boolean (.int v) = true := by rcases h with rfl | rfl <;> rfl
theorem nz_c {v : Int32} (h : (v.toUInt32 % 65536).toInt32 = v) : narrow .char (.int v) = .int v := by
  have h2 := pk_nc v
  rw [h] at h2
  exact h2
theorem ne_ti {x k : Int32} {a : Int} (h : ¬ x = k) (hk : k.toInt = a) : ¬ x.toInt = a := fun e => h (Int32.toInt_inj.mp (e.trans hk.symm))
/-- cells whose addresses are those of a numbering are apart -/
theorem wd_D {A : Nat → Prop} {ws : va_W} {ad : Nat → Nat} {n : Nat} (h : ws.map (fun q => q.1) = (List.range n).map ad) (hi : ∀ i j, i < n → j < n → ad i = ad j → i = j) (hA : ∀ i, i < n → A (ad i)) : va_D A ws := by
  have key : ∀ (k : Nat) (q : Nat × va_E), ws[k]? = some q → k < n ∧ q.1 = ad k := by
    intro k q hk
    have h1 : (ws.map (fun q => q.1))[k]? = some q.1 := by rw [List.getElem?_map, hk]; rfl
    rw [h, List.getElem?_map] at h1
    by_cases hn : k < n
    · rw [List.getElem?_range hn] at h1
      exact ⟨hn, (Option.some.inj h1).symm⟩
    · rw [List.getElem?_eq_none (by rw [List.length_range]; omega)] at h1
      cases h1
  refine ⟨fun i j p q h1 h2 e => ?_, fun k q hk => ?_⟩
  · obtain ⟨a1, a2⟩ := key i p h1
    obtain ⟨b1, b2⟩ := key j q h2
    exact hi i j a1 b1 (by rw [← a2, ← b2]; exact e)
  · obtain ⟨a1, a2⟩ := key k q hk
    rw [a2]
    exact hA k a1
/-- a method that only reads has come to its end -/
theorem rd_i {p : Program} {l : Launch} {e : Env} {R : Room} {s : State} {m : MethodId} {args : Array Value} {below : List Frame} {meth : Method} {c : Code} {cc : ByteArray} {v : Int32} {pc : Nat} {ls : Array Slot} (hx : p.tables.exec = Jvm.exec) (hb : c.code = cc) (hr : meth.sig.returnType = some .int) (hlk : meth.locks = false) (hdg : decode cc pc = .ok (.ireturn, 1)) : W p l e R s m args below meth c s.heap [] 0 0 (MQ below (QcRead v) args s 0 0 (fun _ => False)) (F0 m pc ls [.int v]) :=
  W.iret (v := v) hx hb hr (fun t ht _ => ⟨rfl, ht⟩) (fun q h => nomatch h) hdg
theorem rd_z {p : Program} {l : Launch} {e : Env} {R : Room} {s : State} {m : MethodId} {args : Array Value} {below : List Frame} {meth : Method} {c : Code} {cc : ByteArray} {v : Int32} {pc : Nat} {ls : Array Slot} {ty : FieldType} (hx : p.tables.exec = Jvm.exec) (hb : c.code = cc) (hr : meth.sig.returnType = some ty) (hlk : meth.locks = false) (hn : narrow ty (.int v) = .int v) (hdg : decode cc pc = .ok (.ireturn, 1)) : W p l e R s m args below meth c s.heap [] 0 0 (MQ below (QcRead v) args s 0 0 (fun _ => False)) (F0 m pc ls [.int v]) :=
  W.zret (v := v) hx hb hr hn (fun t ht _ => ⟨rfl, ht⟩) (fun q h => nomatch h) hdg
/-- a float that is a number -/
def gf {α : Type} (v : UInt32) (x : Option α) : Option α := if v &&& 0x7fffffff ≤ 0x7f800000 then x else none
theorem gf_o {α : Type} {v : UInt32} {x : Option α} {r : α} (h : gf v x = some r) : vf_n32 v ∧ x = some r := by
  unfold gf at h
  by_cases c : v &&& 0x7fffffff ≤ 0x7f800000
  · rw [if_pos c] at h; exact ⟨c, h⟩
  · rw [if_neg c] at h; cases h
theorem gf_i {α : Type} {v : UInt32} {x : Option α} (h : vf_n32 v) : gf v x = x := if_pos h
def sX (p : Program) (s : State) (m : MethodId) (args : Array Value) (meth : Method) (c : Code) (cc : ByteArray) (nL : Nat) (own : String) (ret : Option FieldType) : Prop := CallFix p m c cc nL s args gw own ∧ meth.sig.returnType = ret ∧ meth.locks = false
