def rmi0 : Room := { frames := 1, cells := 0, slots := 0, locals := 12 }
def rmi2 : Room := { frames := 1, cells := 1, slots := 60, locals := 12 }
def rmi3 : Room := { frames := 2, cells := 14, slots := 181, locals := 40 }
def rmi1 : Room := { frames := 3, cells := 91, slots := 1164, locals := 70 }
def rmi4 : Room := { frames := 4, cells := 156, slots := 2005, locals := 100 }
def rmi5 : Room := { frames := 1, cells := 8, slots := 1788, locals := 12 }
def preI (D : va_G) (tys : List (ClassId × FieldType)) (n ci : Nat) (fs : List Value) (U : State) : Prop := U.heap.size = n + 1 ∧ va_at D vwCl (n, .inr (ci, fs)) U.heap ∧ va_K D vwCl tys U ∧ nx U
theorem preI_bl {D : va_G} {tys : List (ClassId × FieldType)} {n ci : Nat} {fs : List Value} {As : List Value} : FrameBlind (va_Pc As (preI D tys n ci fs)) := fun a U g mk h => ⟨h.1, h.2.1, h.2.2.1, va_K.moved (u := U) (U := U.calling g mk a) (Vm.Alike.refl U.vm) h.2.2.2.1, nx_c h.2.2.2.2⟩
