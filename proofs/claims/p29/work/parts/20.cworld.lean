/-! the system's cells by number: State k (k < 10: 0 now, 1 trial, 2 to 7 saved, 8 and 9 snapshots) has 15 k to 15 k + 14: the object, grades, limits, runaways, settings, cars, movers, the 8 cars; 150 the railway, 151 history, 152 its row, 153 snapshots, 154 kept, 155 orders, 156 text. A memory has a vector a State (as the reference's row of 171, movers behind), 10 history, 11 kept, 12 orders -/
abbrev cYt : Type := ClassId × ClassId × ClassId × ClassId × ClassId
def cut (n o : Nat) (σ : Nat → Int32) : Nat → Int32 := fun i => if i < n then σ (o + i) else 0
theorem cut_in {n o i : Nat} {σ : Nat → Int32} (h : i < n) : cut n o σ i = σ (o + i) := if_pos h
theorem cut_0 {n i : Nat} {σ : Nat → Int32} (h : i < n) : cut n 0 σ i = σ i := by rw [cut_in h, Nat.zero_add]
theorem cut_congr {n o : Nat} {σ τ : Nat → Int32} (h : ∀ i, o ≤ i → i < o + n → σ i = τ i) : cut n o σ = cut n o τ := by
  funext i
  unfold cut
  by_cases c : i < n
  · rw [if_pos c, if_pos c, h (o + i) (by omega) (by omega)]
  · rw [if_neg c, if_neg c]
theorem cut_upd {n o i : Nat} {σ : Nat → Int32} {x : Int32} (h : i < n) : upd (cut n o σ) i x = cut n o (upd σ (o + i) x) := by
  funext j
  by_cases c : j < n
  · by_cases d : j = i
    · subst d; simp [upd, cut, c]
    · simp [upd, cut, c, d]
  · have d : j ≠ i := by omega
    simp [upd, cut, c, d]
/-- n cells from o on are another vector's -/
def bl (σ τ : Nat → Int32) (o n : Nat) : Nat → Int32 := fun i => if o ≤ i ∧ i < o + n then τ i else σ i
theorem cut_bl {n o : Nat} {σ τ : Nat → Int32} : va_cpy (cut n o τ) (cut n o σ) 0 0 n = cut n o (bl σ τ o n) := by
  funext j
  by_cases c : j < n
  · rw [pk_cpy_in (Nat.zero_le j) (by omega), cut_in c]
    rw [cut_in (by omega)]
    unfold bl
    rw [if_pos (by omega)]
    congr 1
    omega
  · rw [pk_cpy_out (Or.inr (by omega))]
    unfold cut
    rw [if_neg c, if_neg c]
/-- the cell of a State that holds a place of its vector -/
def rg (i : Nat) : Nat := if i < 30 then 1 else if i < 60 then 2 else if i < 90 then 3 else if i < 162 then (i - 90) / 9 + 7 else if i < 168 then 0 else 4
theorem rg_1 {i : Nat} (h : i < 30) : rg i = 1 := if_pos h
theorem rg_2 {i : Nat} (h : 30 ≤ i) (h2 : i < 60) : rg i = 2 := by unfold rg; rw [if_neg (by omega), if_pos h2]
theorem rg_3 {i : Nat} (h : 60 ≤ i) (h2 : i < 90) : rg i = 3 := by unfold rg; rw [if_neg (by omega), if_neg (by omega), if_pos h2]
theorem rg_c {j f : Nat} (hj : j < 8) (hf : f < 9) : rg (90 + 9 * j + f) = j + 7 := by unfold rg; rw [if_neg (by omega), if_neg (by omega), if_neg (by omega), if_pos (by omega)]; omega
theorem rg_0 {i : Nat} (h : 162 ≤ i) (h2 : i < 168) : rg i = 0 := by unfold rg; rw [if_neg (by omega), if_neg (by omega), if_neg (by omega), if_neg (by omega), if_pos h2]
theorem rg_4 {i : Nat} (h : 168 ≤ i) : rg i = 4 := by unfold rg; rw [if_neg (by omega), if_neg (by omega), if_neg (by omega), if_neg (by omega), if_neg (by omega)]
def carFs (σ : Nat → Int32) (o : Nat) : List Value := [.int (σ (o + 0)), .int (σ (o + 1)), .int (σ (o + 2)), .int (σ (o + 3)), .int (σ (o + 4)), .int (σ (o + 5)), .int (σ (o + 6)), .int (σ (o + 7)), .int (σ (o + 8))]
def stFs (ad : Nat → Nat) (b : Nat) (σ : Nat → Int32) : List Value := [.ref (ad (b + 1)), .ref (ad (b + 2)), .ref (ad (b + 3)), .ref (ad (b + 4)), .ref (ad (b + 5)), .ref (ad (b + 6)), .int (σ 162), .int (σ 163), .int (σ 164), .int (σ 165), .int (σ 166), .int (σ 167)]
def stE (Y : cYt) (ad : Nat → Nat) (b : Nat) (r : Nat) (σ τ : Nat → Int32) : va_E := match r with
  | 0 => .inr (3, stFs ad b σ)
  | 1 => .inl (Y.1, 30, .inl (cut 30 0 σ))
  | 2 => .inl (Y.1, 30, .inl (cut 30 30 σ))
  | 3 => .inl (Y.1, 30, .inl (cut 30 60 σ))
  | 4 => .inl (Y.1, 3, .inl (cut 3 168 σ))
  | 5 => .inl (Y.2.2.2.1, 8, .inr (.inr (.inr (.inr (fun i => if i < 8 then some (ad (b + (i + 7))) else none)))))
  | 6 => .inl (Y.1, 8, .inl (cut 8 0 τ))
  | r + 7 => .inr (0, carFs σ (90 + 9 * r))
theorem stE_ext {Y : cYt} {ad : Nat → Nat} {b r : Nat} {σ τ ρ : Nat → Int32} (hr : r < 15) (h : ∀ i, i < 171 → rg i = r → τ i = σ i) : stE Y ad b r τ ρ = stE Y ad b r σ ρ := by
  match r, hr, h with
  | 0, _, h =>
    have g : ∀ i, 162 ≤ i → i < 168 → τ i = σ i := fun i h1 h2 => h i (by omega) (rg_0 h1 h2)
    simp only [stE, stFs, g 162 (by omega) (by omega), g 163 (by omega) (by omega), g 164 (by omega) (by omega), g 165 (by omega) (by omega), g 166 (by omega) (by omega), g 167 (by omega) (by omega)]
  | 1, _, h => simp only [stE, cut_congr (n := 30) (o := 0) (fun i h1 h2 => h i (by omega) (rg_1 (by omega)))]
  | 2, _, h => simp only [stE, cut_congr (n := 30) (o := 30) (fun i h1 h2 => h i (by omega) (rg_2 (by omega) (by omega)))]
  | 3, _, h => simp only [stE, cut_congr (n := 30) (o := 60) (fun i h1 h2 => h i (by omega) (rg_3 (by omega) (by omega)))]
  | 4, _, h => simp only [stE, cut_congr (n := 3) (o := 168) (fun i h1 h2 => h i (by omega) (rg_4 (by omega)))]
  | 5, _, h => rfl
  | 6, _, h => rfl
  | j + 7, hr, h =>
    have g : ∀ f, f < 9 → τ (90 + 9 * j + f) = σ (90 + 9 * j + f) := fun f hf => h _ (by omega) (rg_c (by omega) hf)
    simp only [stE, carFs, g 0 (by omega), g 1 (by omega), g 2 (by omega), g 3 (by omega), g 4 (by omega), g 5 (by omega), g 6 (by omega), g 7 (by omega), g 8 (by omega)]
def cwE (Y : cYt) (ad : Nat → Nat) (μ : Nat → Nat → Int32) (id : Nat) : va_E := if id < 150 then stE Y ad (15 * (id / 15)) (id % 15) (μ (id / 15)) (μ (id / 15 + 20)) else match id - 150 with
  | 0 => .inr (4, [.ref (ad 0), .ref (ad 15), .ref (ad 151), .ref (ad 153), .ref (ad 154), .ref (ad 155)])
  | 1 => .inr (1, [.ref (ad 152), .int (μ 10 1), .int (μ 10 2)])
  | 2 => .inl (Y.2.2.2.2, 6, .inr (.inr (.inr (.inr (fun i => if i < 6 then some (ad (15 * (2 + i))) else none)))))
  | 3 => .inl (Y.2.2.2.2, 2, .inr (.inr (.inr (.inr (fun i => if i < 2 then some (ad (15 * (8 + i))) else none)))))
  | 4 => .inl (Y.2.2.1, 2, .inl (cut 2 0 (μ 11)))
  | 5 => .inr (2, [.ref (ad 156), .int (μ 12 60)])
  | _ => .inl (Y.2.1, 60, .inl (cut 60 0 (μ 12)))
theorem cw_st {Y : cYt} {ad : Nat → Nat} {μ : Nat → Nat → Int32} {k r : Nat} (hk : k < 10) (hr : r < 15) : cwE Y ad μ (15 * k + r) = stE Y ad (15 * k) r (μ k) (μ (k + 20)) := by
  unfold cwE
  rw [if_pos (by omega), show (15 * k + r) / 15 = k by omega, show (15 * k + r) % 15 = r by omega]
def cwW (Y : cYt) (ad : Nat → Nat) (μ : Nat → Nat → Int32) : va_W := (List.range 157).map (fun id => (ad id, cwE Y ad μ id))
theorem cw_at {Y : cYt} {ad : Nat → Nat} {μ : Nat → Nat → Int32} {id : Nat} (h : id < 157) : (cwW Y ad μ)[id]? = some (ad id, cwE Y ad μ id) := by
  unfold cwW
  rw [List.getElem?_map, List.getElem?_range h]
  rfl
theorem cw_ate {Y : cYt} {ad : Nat → Nat} {μ : Nat → Nat → Int32} {id : Nat} {x : va_E} (h : id < 157) (hx : cwE Y ad μ id = x) : (cwW Y ad μ)[id]? = some (ad id, x) := by rw [cw_at h, hx]
theorem cw_set {Y : cYt} {ad : Nat → Nat} {μ μ' : Nat → Nat → Int32} {id : Nat} {x : va_E} (h : id < 157) (hx : cwE Y ad μ' id = x) (hE : ∀ j, j < 157 → j ≠ id → cwE Y ad μ' j = cwE Y ad μ j) : (cwW Y ad μ).set id (ad id, x) = cwW Y ad μ' := by
  apply List.ext_getElem?
  intro j
  have hl : (cwW Y ad μ).length = 157 := by unfold cwW; rw [List.length_map, List.length_range]
  by_cases hj : j = id
  · subst hj
    rw [List.getElem?_set_self (by omega), cw_at h, hx]
  · rw [List.getElem?_set_ne (fun q => hj q.symm)]
    by_cases hj2 : j < 157
    · rw [cw_at hj2, cw_at hj2, hE j hj2 hj]
    · rw [List.getElem?_eq_none (by omega), List.getElem?_eq_none (by unfold cwW; rw [List.length_map, List.length_range]; omega)]
theorem cw_hi {Y : cYt} {ad : Nat → Nat} {μ μ' : Nat → Nat → Int32} {j : Nat} (h1 : ¬ j < 150) (h : ∀ b, 10 ≤ b → b < 20 → μ' b = μ b) : cwE Y ad μ' j = cwE Y ad μ j := by
  unfold cwE
  rw [if_neg h1, if_neg h1, h 10 (by omega) (by omega), h 11 (by omega) (by omega), h 12 (by omega) (by omega)]
theorem cw_lo {Y : cYt} {ad : Nat → Nat} {μ μ' : Nat → Nat → Int32} {j : Nat} (h1 : j < 150) (h : ∀ b, b < 10 ∨ 20 ≤ b → μ' b = μ b) : cwE Y ad μ' j = cwE Y ad μ j := by
  unfold cwE
  rw [if_pos h1, if_pos h1, h _ (by omega), h _ (by omega)]
/-- a cell of a State's is another -/
theorem cw_vec {Y : cYt} {ad : Nat → Nat} {μ : Nat → Nat → Int32} {k r : Nat} {σ σ' : Nat → Int32} (hk : k < 10) (hr : r < 15) (h : ∀ i, i < 171 → rg i ≠ r → σ' i = σ i) : (cwW Y ad (s1 μ k σ)).set (15 * k + r) (ad (15 * k + r), stE Y ad (15 * k) r σ' (μ (k + 20))) = cwW Y ad (s1 μ k σ') := by
  refine cw_set (by omega) (by rw [cw_st hk hr, s1_k, s1_n (by omega)]) (fun j hj hne => ?_)
  by_cases h1 : j < 150
  · by_cases h2 : j / 15 = k
    · have hj2 : j = 15 * k + j % 15 := by omega
      rw [hj2, cw_st hk (by omega), cw_st hk (by omega), s1_k, s1_k, s1_n (by omega), s1_n (by omega)]
      exact stE_ext (by omega) (fun i hi hg => h i hi (by omega))
    · unfold cwE
      rw [if_pos h1, if_pos h1, s1_n h2, s1_n h2, s1_n (by omega), s1_n (by omega)]
  · exact cw_hi h1 (fun b hb _ => by rw [s1_n (by omega), s1_n (by omega)])
theorem cw_up {Y : cYt} {ad : Nat → Nat} {μ : Nat → Nat → Int32} {k r idx : Nat} {σ : Nat → Int32} {x : Int32} (hk : k < 10) (hr : r < 15) (h : rg idx = r) : (cwW Y ad (s1 μ k σ)).set (15 * k + r) (ad (15 * k + r), stE Y ad (15 * k) r (upd σ idx x) (μ (k + 20))) = cwW Y ad (s1 μ k (upd σ idx x)) := cw_vec hk hr (fun i _ hg => pk_un (fun e => hg (by rw [e]; exact h)))
/-- the movers of a State are others -/
theorem cw_mv {Y : cYt} {ad : Nat → Nat} {μ : Nat → Nat → Int32} {k : Nat} {σ σ' : Nat → Int32} (hk : k < 10) : (cwW Y ad (s1 μ (k + 20) σ)).set (15 * k + 6) (ad (15 * k + 6), .inl (Y.1, 8, .inl (cut 8 0 σ'))) = cwW Y ad (s1 μ (k + 20) σ') := by
  refine cw_set (by omega) ?_ (fun j hj hne => ?_)
  · rw [cw_st hk (by omega), s1_k]
    rfl
  · by_cases h1 : j < 150
    · by_cases h2 : j / 15 = k
      · have hj2 : j = 15 * k + j % 15 := by omega
        rw [hj2, cw_st hk (by omega), cw_st hk (by omega), s1_k, s1_k, s1_n (by omega), s1_n (by omega)]
        have h6 : j % 15 ≠ 6 := by omega
        have h15 : j % 15 < 15 := by omega
        generalize j % 15 = r at h6 h15 ⊢
        match r, h6, h15 with
        | 0, _, _ => rfl
        | 1, _, _ => rfl
        | 2, _, _ => rfl
        | 3, _, _ => rfl
        | 4, _, _ => rfl
        | 5, _, _ => rfl
        | 6, h6, _ => exact absurd rfl h6
        | r + 7, _, _ => rfl
      · unfold cwE
        rw [if_pos h1, if_pos h1, s1_n (by omega), s1_n (by omega), s1_n (by omega), s1_n (by omega)]
    · exact cw_hi h1 (fun b _ hb => by rw [s1_n (by omega), s1_n (by omega)])
theorem s1_c {μ : Nat → Nat → Int32} {a b : Nat} {σ τ : Nat → Int32} (h : a ≠ b) : s1 (s1 μ a σ) b τ = s1 (s1 μ b τ) a σ := by
  funext x
  by_cases h1 : x = b
  · subst h1
    rw [s1_k, s1_n (Ne.symm h), s1_k]
  · rw [s1_n h1]
    by_cases h2 : x = a
    · subst h2; rw [s1_k, s1_k]
    · rw [s1_n h2, s1_n h2, s1_n h1]
abbrev cTys (Y : cYt) : List (ClassId × FieldType) := [(Y.1, .int), (Y.2.1, .char), (Y.2.2.1, .boolean), (Y.2.2.2.1, .object "OreRailway$Car"), (Y.2.2.2.2, .object "OreRailway$State")]
def cInj (ad : Nat → Nat) : Prop := ∀ i j, i < 157 → j < 157 → ad i = ad j → i = j
def cA (ad : Nat → Nat) (sz : Nat) : Nat → Prop := fun q => (∃ i, i < 157 ∧ q = ad i) ∨ sz ≤ q
theorem cD {Y : cYt} {ad : Nat → Nat} {μ : Nat → Nat → Int32} {sz : Nat} (hI : cInj ad) : va_D (cA ad sz) (cwW Y ad μ) := wd_D (n := 157) (ad := ad) (by unfold cwW; rw [List.map_map]; rfl) hI (fun i h => Or.inl ⟨i, h, rfl⟩)
def cB (D : va_G) (Y : cYt) (ad : Nat → Nat) (μ : Nat → Nat → Int32) (U : State) : Prop := va_P D vwCl (cwW Y ad μ) U.heap ∧ va_K D vwCl (cTys Y) U
def cH (D : va_G) (Y : cYt) (ad : Nat → Nat) (μ : Nat → Nat → Int32) (s : State) (H : Heap) (locs : List Loc) : Prop := va_P D vwCl (cwW Y ad μ) H ∧ va_S (cA ad s.heap.size) s.heap H locs
def cX (D : va_G) (Y : cYt) (p : Program) (s : State) (m : MethodId) (args : Array Value) (meth : Method) (c : Code) (cc : ByteArray) (nL : Nat) (own : String) (ret : Option FieldType) : Prop := CallFix p m c cc nL s args gw own ∧ meth.sig.returnType = ret ∧ meth.locks = false ∧ va_K D vwCl (cTys Y) s
theorem cB_bl {D : va_G} {Y : cYt} {ad : Nat → Nat} {μ : Nat → Nat → Int32} {As : List Value} : FrameBlind (va_Pc As (cB D Y ad μ)) := fun a U g mk h => ⟨h.1, h.2.1, va_K.moved (u := U) (U := U.calling g mk a) (Vm.Alike.refl U.vm) h.2.2⟩
theorem cBs_bl {D : va_G} {Y : cYt} {ad : Nat → Nat} {μ : Nat → Nat → Int32} {As : List Value} {sz : Nat} : FrameBlind (va_Pc As (fun U => U.heap.size = sz ∧ cB D Y ad μ U)) := fun a U g mk h => ⟨h.1, h.2.1, h.2.2.1, va_K.moved (u := U) (U := U.calling g mk a) (Vm.Alike.refl U.vm) h.2.2.2⟩
theorem cH_in {D : va_G} {Y : cYt} {ad : Nat → Nat} {μ : Nat → Nat → Int32} {s : State} {H : Heap} {locs : List Loc} (k : Nat) (h : cH D Y ad μ s H locs) : cH D Y ad (s1 μ k (μ k)) s H locs := by rw [s1_same]; exact h
theorem cH_in2 {D : va_G} {Y : cYt} {ad : Nat → Nat} {μ : Nat → Nat → Int32} {s : State} {H : Heap} {locs : List Loc} {k : Nat} (hk : k < 10) (h : cH D Y ad μ s H locs) : cH D Y ad (s1 (s1 μ (k + 20) (μ (k + 20))) k (μ k)) s H locs := by rw [s1_same, s1_same]; exact h
theorem s1_mv {μ : Nat → Nat → Int32} {k : Nat} {a b x y : Nat → Int32} : s1 (s1 (s1 (s1 μ (k + 20) a) k b) (k + 20) x) k y = s1 (s1 μ (k + 20) x) k y := by
  rw [s1_c (a := k) (b := k + 20) (by omega), s1_s1, s1_s1]
theorem cP_in {D : va_G} {Y : cYt} {ad : Nat → Nat} {μ : Nat → Nat → Int32} {H : Heap} (k : Nat) (h : va_P D vwCl (cwW Y ad μ) H) : va_P D vwCl (cwW Y ad (s1 μ k (μ k))) H := by rw [s1_same]; exact h

theorem vin_lt {i : Int32} {n : Nat} (h : vp_in i n) : i.toNatClampNeg < n := Nat.not_le.mp (fun q => h (Or.inr q))
theorem TX0_c : ∀ k, (TX0 k).1 = "OreRailway$Car" := by
  intro k
  unfold TX0
  split <;> rfl
theorem TX1_c : ∀ k, (TX1 k).1 = "OreRailway$History" := by
  intro k
  unfold TX1
  split <;> rfl
theorem TX2_c : ∀ k, (TX2 k).1 = "OreRailway$OrderText" := by
  intro k
  unfold TX2
  split <;> rfl
theorem TX3_c : ∀ k, (TX3 k).1 = "OreRailway$State" := by
  intro k
  unfold TX3
  split <;> rfl
theorem TX4_c : ∀ k, (TX4 k).1 = "OreRailway" := by
  intro k
  unfold TX4
  split <;> rfl
theorem cr_gSt {p : Program} {l : Launch} {e : Env} {R : Room} {s : State} {m : MethodId} {args : Array Value} {below : List Frame} {meth : Method} {c : Code} {cc : ByteArray} {nL : Nat} {own : String} {ret : Option FieldType} {D : va_G} {Y : cYt} {ad : Nat → Nat} {μ : Nat → Nat → Int32} {H : Heap} {locs : List Loc} {cells slots : Nat} {Q : State → Prop} {pc : Nat} {ls : Array Slot} {rest : List Value} (X : cX D Y p s m args meth c cc nL own ret) {σ : Nat → Int32} {k : Nat} (hk : k < 10) (hM : μ k = σ) (hP : va_P D vwCl (cwW Y ad μ) H) {index i : Nat} {v : Value} (hi : i < 12) (hw : Cond.fieldLink own index "OreRailway$State" (TX3 i).2.1 (TX3 i).2.2.1 ∈ gw) (hv : (stFs ad (15 * k) σ)[i]? = some v) (hdg : decode cc pc = .ok (.getfield index, 3)) (kk : W p l e R s m args below meth c H locs cells slots Q (F0 m (pc + 3) ls (v :: rest))) : W p l e R s m args below meth c H locs cells slots Q (F0 m pc ls (.ref (ad (15 * k)) :: rest)) := va_get (D := D) (ci := 3) (v := v) (C := RX3) (T := TX3) (N := 12) X.1.1 X.1.2.1 X.1.2.2.2.2 inlX3 X.1.2.2.2.1 X.2.2.2 hP (15 * k) (cw_ate (by omega) ((cw_st (r := 0) hk (by omega)).trans (by rw [hM]; rfl))) rfl i hi (X.1.2.2.2.2 _ hw) (fun x h => by rw [TX3_c] at h; exact h) hv hdg kk
theorem cr_gCar {p : Program} {l : Launch} {e : Env} {R : Room} {s : State} {m : MethodId} {args : Array Value} {below : List Frame} {meth : Method} {c : Code} {cc : ByteArray} {nL : Nat} {own : String} {ret : Option FieldType} {D : va_G} {Y : cYt} {ad : Nat → Nat} {μ : Nat → Nat → Int32} {H : Heap} {locs : List Loc} {cells slots : Nat} {Q : State → Prop} {pc : Nat} {ls : Array Slot} {rest : List Value} (X : cX D Y p s m args meth c cc nL own ret) {σ : Nat → Int32} {k : Nat} (hk : k < 10) (hM : μ k = σ) {j : Nat} (hj : j < 8) (hP : va_P D vwCl (cwW Y ad μ) H) {index i : Nat} {v : Value} (hi : i < 9) (hw : Cond.fieldLink own index "OreRailway$Car" (TX0 i).2.1 (TX0 i).2.2.1 ∈ gw) (hv : (carFs σ (90 + 9 * j))[i]? = some v) (hdg : decode cc pc = .ok (.getfield index, 3)) (kk : W p l e R s m args below meth c H locs cells slots Q (F0 m (pc + 3) ls (v :: rest))) : W p l e R s m args below meth c H locs cells slots Q (F0 m pc ls (.ref (ad (15 * k + (j + 7))) :: rest)) := va_get (D := D) (ci := 0) (v := v) (C := RX0) (T := TX0) (N := 9) X.1.1 X.1.2.1 X.1.2.2.2.2 inlX0 X.1.2.2.2.1 X.2.2.2 hP (15 * k + (j + 7)) (cw_ate (by omega) ((cw_st (r := j + 7) hk (by omega)).trans (by rw [hM]; rfl))) rfl i hi (X.1.2.2.2.2 _ hw) (fun x h => by rw [TX0_c] at h; exact h) hv hdg kk
theorem cr_gHi {p : Program} {l : Launch} {e : Env} {R : Room} {s : State} {m : MethodId} {args : Array Value} {below : List Frame} {meth : Method} {c : Code} {cc : ByteArray} {nL : Nat} {own : String} {ret : Option FieldType} {D : va_G} {Y : cYt} {ad : Nat → Nat} {μ : Nat → Nat → Int32} {H : Heap} {locs : List Loc} {cells slots : Nat} {Q : State → Prop} {pc : Nat} {ls : Array Slot} {rest : List Value} (X : cX D Y p s m args meth c cc nL own ret)  (hP : va_P D vwCl (cwW Y ad μ) H) {index i : Nat} {v : Value} (hi : i < 3) (hw : Cond.fieldLink own index "OreRailway$History" (TX1 i).2.1 (TX1 i).2.2.1 ∈ gw) (hv : ([Value.ref (ad 152), .int (μ 10 1), .int (μ 10 2)])[i]? = some v) (hdg : decode cc pc = .ok (.getfield index, 3)) (kk : W p l e R s m args below meth c H locs cells slots Q (F0 m (pc + 3) ls (v :: rest))) : W p l e R s m args below meth c H locs cells slots Q (F0 m pc ls (.ref (ad (151)) :: rest)) := va_get (D := D) (ci := 1) (v := v) (C := RX1) (T := TX1) (N := 3) X.1.1 X.1.2.1 X.1.2.2.2.2 inlX1 X.1.2.2.2.1 X.2.2.2 hP (151) (cw_ate (by omega) (rfl)) rfl i hi (X.1.2.2.2.2 _ hw) (fun x h => by rw [TX1_c] at h; exact h) hv hdg kk
theorem cr_gOr {p : Program} {l : Launch} {e : Env} {R : Room} {s : State} {m : MethodId} {args : Array Value} {below : List Frame} {meth : Method} {c : Code} {cc : ByteArray} {nL : Nat} {own : String} {ret : Option FieldType} {D : va_G} {Y : cYt} {ad : Nat → Nat} {μ : Nat → Nat → Int32} {H : Heap} {locs : List Loc} {cells slots : Nat} {Q : State → Prop} {pc : Nat} {ls : Array Slot} {rest : List Value} (X : cX D Y p s m args meth c cc nL own ret) {σ : Nat → Int32} (hM : μ 12 = σ) (hP : va_P D vwCl (cwW Y ad μ) H) {index i : Nat} {v : Value} (hi : i < 2) (hw : Cond.fieldLink own index "OreRailway$OrderText" (TX2 i).2.1 (TX2 i).2.2.1 ∈ gw) (hv : ([Value.ref (ad 156), .int (σ 60)])[i]? = some v) (hdg : decode cc pc = .ok (.getfield index, 3)) (kk : W p l e R s m args below meth c H locs cells slots Q (F0 m (pc + 3) ls (v :: rest))) : W p l e R s m args below meth c H locs cells slots Q (F0 m pc ls (.ref (ad (155)) :: rest)) := va_get (D := D) (ci := 2) (v := v) (C := RX2) (T := TX2) (N := 2) X.1.1 X.1.2.1 X.1.2.2.2.2 inlX2 X.1.2.2.2.1 X.2.2.2 hP (155) (cw_ate (by omega) (by rw [← hM]; rfl)) rfl i hi (X.1.2.2.2.2 _ hw) (fun x h => by rw [TX2_c] at h; exact h) hv hdg kk
theorem cr_gRa {p : Program} {l : Launch} {e : Env} {R : Room} {s : State} {m : MethodId} {args : Array Value} {below : List Frame} {meth : Method} {c : Code} {cc : ByteArray} {nL : Nat} {own : String} {ret : Option FieldType} {D : va_G} {Y : cYt} {ad : Nat → Nat} {μ : Nat → Nat → Int32} {H : Heap} {locs : List Loc} {cells slots : Nat} {Q : State → Prop} {pc : Nat} {ls : Array Slot} {rest : List Value} (X : cX D Y p s m args meth c cc nL own ret)  (hP : va_P D vwCl (cwW Y ad μ) H) {index i : Nat} {v : Value} (hi : i < 6) (hw : Cond.fieldLink own index "OreRailway" (TX4 i).2.1 (TX4 i).2.2.1 ∈ gw) (hv : ([Value.ref (ad 0), .ref (ad 15), .ref (ad 151), .ref (ad 153), .ref (ad 154), .ref (ad 155)])[i]? = some v) (hdg : decode cc pc = .ok (.getfield index, 3)) (kk : W p l e R s m args below meth c H locs cells slots Q (F0 m (pc + 3) ls (v :: rest))) : W p l e R s m args below meth c H locs cells slots Q (F0 m pc ls (.ref (ad (150)) :: rest)) := va_get (D := D) (ci := 4) (v := v) (C := RX4) (T := TX4) (N := 6) X.1.1 X.1.2.1 X.1.2.2.2.2 inlX4 X.1.2.2.2.1 X.2.2.2 hP (150) (cw_ate (by omega) (rfl)) rfl i hi (X.1.2.2.2.2 _ hw) (fun x h => by rw [TX4_c] at h; exact h) hv hdg kk
theorem cr_ld1 {p : Program} {l : Launch} {e : Env} {R : Room} {s : State} {m : MethodId} {args : Array Value} {below : List Frame} {meth : Method} {c : Code} {cc : ByteArray} {nL : Nat} {own : String} {ret : Option FieldType} {D : va_G} {Y : cYt} {ad : Nat → Nat} {μ : Nat → Nat → Int32} {H : Heap} {locs : List Loc} {cells slots : Nat} {Q : State → Prop} {pc : Nat} {ls : Array Slot} {rest : List Value} (X : cX D Y p s m args meth c cc nL own ret) {σ : Nat → Int32} {k : Nat} (hk : k < 10) (hM : μ k = σ) (hP : va_P D vwCl (cwW Y ad μ) H) {i : Int32} (hi : vp_in i 30) (hdg : decode cc pc = .ok (.iaload, 1)) (kk : W p l e R s m args below meth c H locs cells slots Q (F0 m (pc + 1) ls (.int (σ i.toNatClampNeg) :: rest))) : W p l e R s m args below meth c H locs cells slots Q (F0 m pc ls (.int i :: .ref (ad (15 * k + 1)) :: rest)) := by
  refine va_iald X.1.1 X.1.2.1 X.2.2.2 hP (15 * k + 1) 0 (cw_ate (by omega) ((cw_st (r := 1) hk (by omega)).trans (by rw [hM]; rfl))) rfl hi hdg ?_
  rw [cut_0 (vin_lt hi)]
  exact kk
theorem cr_ld2 {p : Program} {l : Launch} {e : Env} {R : Room} {s : State} {m : MethodId} {args : Array Value} {below : List Frame} {meth : Method} {c : Code} {cc : ByteArray} {nL : Nat} {own : String} {ret : Option FieldType} {D : va_G} {Y : cYt} {ad : Nat → Nat} {μ : Nat → Nat → Int32} {H : Heap} {locs : List Loc} {cells slots : Nat} {Q : State → Prop} {pc : Nat} {ls : Array Slot} {rest : List Value} (X : cX D Y p s m args meth c cc nL own ret) {σ : Nat → Int32} {k : Nat} (hk : k < 10) (hM : μ k = σ) (hP : va_P D vwCl (cwW Y ad μ) H) {i : Int32} (hi : vp_in i 30) (hdg : decode cc pc = .ok (.iaload, 1)) (kk : W p l e R s m args below meth c H locs cells slots Q (F0 m (pc + 1) ls (.int (σ (30 + i.toNatClampNeg)) :: rest))) : W p l e R s m args below meth c H locs cells slots Q (F0 m pc ls (.int i :: .ref (ad (15 * k + 2)) :: rest)) := by
  refine va_iald X.1.1 X.1.2.1 X.2.2.2 hP (15 * k + 2) 0 (cw_ate (by omega) ((cw_st (r := 2) hk (by omega)).trans (by rw [hM]; rfl))) rfl hi hdg ?_
  rw [cut_in (vin_lt hi)]
  exact kk
theorem cr_ld3 {p : Program} {l : Launch} {e : Env} {R : Room} {s : State} {m : MethodId} {args : Array Value} {below : List Frame} {meth : Method} {c : Code} {cc : ByteArray} {nL : Nat} {own : String} {ret : Option FieldType} {D : va_G} {Y : cYt} {ad : Nat → Nat} {μ : Nat → Nat → Int32} {H : Heap} {locs : List Loc} {cells slots : Nat} {Q : State → Prop} {pc : Nat} {ls : Array Slot} {rest : List Value} (X : cX D Y p s m args meth c cc nL own ret) {σ : Nat → Int32} {k : Nat} (hk : k < 10) (hM : μ k = σ) (hP : va_P D vwCl (cwW Y ad μ) H) {i : Int32} (hi : vp_in i 30) (hdg : decode cc pc = .ok (.iaload, 1)) (kk : W p l e R s m args below meth c H locs cells slots Q (F0 m (pc + 1) ls (.int (σ (60 + i.toNatClampNeg)) :: rest))) : W p l e R s m args below meth c H locs cells slots Q (F0 m pc ls (.int i :: .ref (ad (15 * k + 3)) :: rest)) := by
  refine va_iald X.1.1 X.1.2.1 X.2.2.2 hP (15 * k + 3) 0 (cw_ate (by omega) ((cw_st (r := 3) hk (by omega)).trans (by rw [hM]; rfl))) rfl hi hdg ?_
  rw [cut_in (vin_lt hi)]
  exact kk
theorem cr_ld4 {p : Program} {l : Launch} {e : Env} {R : Room} {s : State} {m : MethodId} {args : Array Value} {below : List Frame} {meth : Method} {c : Code} {cc : ByteArray} {nL : Nat} {own : String} {ret : Option FieldType} {D : va_G} {Y : cYt} {ad : Nat → Nat} {μ : Nat → Nat → Int32} {H : Heap} {locs : List Loc} {cells slots : Nat} {Q : State → Prop} {pc : Nat} {ls : Array Slot} {rest : List Value} (X : cX D Y p s m args meth c cc nL own ret) {σ : Nat → Int32} {k : Nat} (hk : k < 10) (hM : μ k = σ) (hP : va_P D vwCl (cwW Y ad μ) H) {i : Int32} (hi : vp_in i 3) (hdg : decode cc pc = .ok (.iaload, 1)) (kk : W p l e R s m args below meth c H locs cells slots Q (F0 m (pc + 1) ls (.int (σ (168 + i.toNatClampNeg)) :: rest))) : W p l e R s m args below meth c H locs cells slots Q (F0 m pc ls (.int i :: .ref (ad (15 * k + 4)) :: rest)) := by
  refine va_iald X.1.1 X.1.2.1 X.2.2.2 hP (15 * k + 4) 0 (cw_ate (by omega) ((cw_st (r := 4) hk (by omega)).trans (by rw [hM]; rfl))) rfl hi hdg ?_
  rw [cut_in (vin_lt hi)]
  exact kk
theorem cr_cars {p : Program} {l : Launch} {e : Env} {R : Room} {s : State} {m : MethodId} {args : Array Value} {below : List Frame} {meth : Method} {c : Code} {cc : ByteArray} {nL : Nat} {own : String} {ret : Option FieldType} {D : va_G} {Y : cYt} {ad : Nat → Nat} {μ : Nat → Nat → Int32} {H : Heap} {locs : List Loc} {cells slots : Nat} {Q : State → Prop} {pc : Nat} {ls : Array Slot} {rest : List Value} (X : cX D Y p s m args meth c cc nL own ret) {k : Nat} (hk : k < 10) (hP : va_P D vwCl (cwW Y ad μ) H) {i : Int32} (hi : vp_in i 8) (hdg : decode cc pc = .ok (.aaload, 1)) (kk : W p l e R s m args below meth c H locs cells slots Q (F0 m (pc + 1) ls (.ref (ad (15 * k + (i.toNatClampNeg + 7))) :: rest))) : W p l e R s m args below meth c H locs cells slots Q (F0 m pc ls (.int i :: .ref (ad (15 * k + 5)) :: rest)) := by
  refine va_aldq X.1.1 X.1.2.1 X.2.2.2 hP (15 * k + 5) 3 (cw_ate (by omega) ((cw_st (r := 5) hk (by omega)).trans rfl)) rfl hi hdg ?_
  rw [if_pos (vin_lt hi)]
  exact kk
theorem cr_saved {p : Program} {l : Launch} {e : Env} {R : Room} {s : State} {m : MethodId} {args : Array Value} {below : List Frame} {meth : Method} {c : Code} {cc : ByteArray} {nL : Nat} {own : String} {ret : Option FieldType} {D : va_G} {Y : cYt} {ad : Nat → Nat} {μ : Nat → Nat → Int32} {H : Heap} {locs : List Loc} {cells slots : Nat} {Q : State → Prop} {pc : Nat} {ls : Array Slot} {rest : List Value} (X : cX D Y p s m args meth c cc nL own ret) (hP : va_P D vwCl (cwW Y ad μ) H) {i : Int32} (hi : vp_in i 6) (hdg : decode cc pc = .ok (.aaload, 1)) (kk : W p l e R s m args below meth c H locs cells slots Q (F0 m (pc + 1) ls (.ref (ad (15 * (2 + i.toNatClampNeg))) :: rest))) : W p l e R s m args below meth c H locs cells slots Q (F0 m pc ls (.int i :: .ref (ad 152) :: rest)) := by
  refine va_aldq X.1.1 X.1.2.1 X.2.2.2 hP 152 4 (cw_ate (by omega) rfl) rfl hi hdg ?_
  rw [if_pos (vin_lt hi)]
  exact kk
theorem cr_shots {p : Program} {l : Launch} {e : Env} {R : Room} {s : State} {m : MethodId} {args : Array Value} {below : List Frame} {meth : Method} {c : Code} {cc : ByteArray} {nL : Nat} {own : String} {ret : Option FieldType} {D : va_G} {Y : cYt} {ad : Nat → Nat} {μ : Nat → Nat → Int32} {H : Heap} {locs : List Loc} {cells slots : Nat} {Q : State → Prop} {pc : Nat} {ls : Array Slot} {rest : List Value} (X : cX D Y p s m args meth c cc nL own ret) (hP : va_P D vwCl (cwW Y ad μ) H) {i : Int32} (hi : vp_in i 2) (hdg : decode cc pc = .ok (.aaload, 1)) (kk : W p l e R s m args below meth c H locs cells slots Q (F0 m (pc + 1) ls (.ref (ad (15 * (8 + i.toNatClampNeg))) :: rest))) : W p l e R s m args below meth c H locs cells slots Q (F0 m pc ls (.int i :: .ref (ad 153) :: rest)) := by
  refine va_aldq X.1.1 X.1.2.1 X.2.2.2 hP 153 4 (cw_ate (by omega) rfl) rfl hi hdg ?_
  rw [if_pos (vin_lt hi)]
  exact kk
theorem cr_kept {p : Program} {l : Launch} {e : Env} {R : Room} {s : State} {m : MethodId} {args : Array Value} {below : List Frame} {meth : Method} {c : Code} {cc : ByteArray} {nL : Nat} {own : String} {ret : Option FieldType} {D : va_G} {Y : cYt} {ad : Nat → Nat} {μ : Nat → Nat → Int32} {H : Heap} {locs : List Loc} {cells slots : Nat} {Q : State → Prop} {pc : Nat} {ls : Array Slot} {rest : List Value} (X : cX D Y p s m args meth c cc nL own ret) (hP : va_P D vwCl (cwW Y ad μ) H) {i : Int32} (hi : vp_in i 2) (hdg : decode cc pc = .ok (.baload, 1)) (kk : W p l e R s m args below meth c H locs cells slots Q (F0 m (pc + 1) ls (.int (μ 11 i.toNatClampNeg) :: rest))) : W p l e R s m args below meth c H locs cells slots Q (F0 m pc ls (.int i :: .ref (ad 154) :: rest)) := by
  refine va_zald X.1.1 X.1.2.1 X.2.2.2 hP 154 2 (cw_ate (by omega) rfl) rfl hi hdg ?_
  rw [cut_0 (vin_lt hi)]
  exact kk
theorem cr_text {p : Program} {l : Launch} {e : Env} {R : Room} {s : State} {m : MethodId} {args : Array Value} {below : List Frame} {meth : Method} {c : Code} {cc : ByteArray} {nL : Nat} {own : String} {ret : Option FieldType} {D : va_G} {Y : cYt} {ad : Nat → Nat} {μ : Nat → Nat → Int32} {H : Heap} {locs : List Loc} {cells slots : Nat} {Q : State → Prop} {pc : Nat} {ls : Array Slot} {rest : List Value} (X : cX D Y p s m args meth c cc nL own ret) {σ : Nat → Int32} (hM : μ 12 = σ) (hP : va_P D vwCl (cwW Y ad μ) H) {i : Int32} (hi : vp_in i 60) (hdg : decode cc pc = .ok (.caload, 1)) (kk : W p l e R s m args below meth c H locs cells slots Q (F0 m (pc + 1) ls (.int (σ i.toNatClampNeg) :: rest))) : W p l e R s m args below meth c H locs cells slots Q (F0 m pc ls (.int i :: .ref (ad 156) :: rest)) := by
  refine va_cald X.1.1 X.1.2.1 X.2.2.2 hP 156 1 (cw_ate (by omega) rfl) rfl hi hdg ?_
  rw [cut_0 (vin_lt hi), hM]
  exact kk
theorem cr_ld6 {p : Program} {l : Launch} {e : Env} {R : Room} {s : State} {m : MethodId} {args : Array Value} {below : List Frame} {meth : Method} {c : Code} {cc : ByteArray} {nL : Nat} {own : String} {ret : Option FieldType} {D : va_G} {Y : cYt} {ad : Nat → Nat} {μ : Nat → Nat → Int32} {H : Heap} {locs : List Loc} {cells slots : Nat} {Q : State → Prop} {pc : Nat} {ls : Array Slot} {rest : List Value} (X : cX D Y p s m args meth c cc nL own ret) {τ : Nat → Int32} {k : Nat} (hk : k < 10) (hM : μ (k + 20) = τ) (hP : va_P D vwCl (cwW Y ad μ) H) {i : Int32} (hi : vp_in i 8) (hdg : decode cc pc = .ok (.iaload, 1)) (kk : W p l e R s m args below meth c H locs cells slots Q (F0 m (pc + 1) ls (.int (τ i.toNatClampNeg) :: rest))) : W p l e R s m args below meth c H locs cells slots Q (F0 m pc ls (.int i :: .ref (ad (15 * k + 6)) :: rest)) := by
  refine va_iald X.1.1 X.1.2.1 X.2.2.2 hP (15 * k + 6) 0 (cw_ate (by omega) ((cw_st (r := 6) hk (by omega)).trans (by rw [hM]; rfl))) rfl hi hdg ?_
  rw [cut_0 (vin_lt hi)]
  exact kk
theorem stFs_set {ad : Nat → Nat} {b i : Nat} {σ : Nat → Int32} {x : Int32} (h : 6 ≤ i ∧ i < 12) : (stFs ad b σ).set i (.int x) = stFs ad b (upd σ (156 + i) x) := by
  obtain ⟨h1, h2⟩ := h
  rcases (show i = 6 ∨ i = 7 ∨ i = 8 ∨ i = 9 ∨ i = 10 ∨ i = 11 by omega) with rfl | rfl | rfl | rfl | rfl | rfl <;> simp [stFs, upd]
theorem carFs_set {o i : Nat} {σ : Nat → Int32} {x : Int32} (h : i < 9) : (carFs σ o).set i (.int x) = carFs (upd σ (o + i) x) o := by
  rcases (show i = 0 ∨ i = 1 ∨ i = 2 ∨ i = 3 ∨ i = 4 ∨ i = 5 ∨ i = 6 ∨ i = 7 ∨ i = 8 by omega) with rfl | rfl | rfl | rfl | rfl | rfl | rfl | rfl | rfl <;> simp [carFs, upd]
theorem cw_oth {Y : cYt} {ad : Nat → Nat} {μ : Nat → Nat → Int32} {k id : Nat} {σ σ' : Nat → Int32} {x : va_E} (hid : id < 157) (h150 : ¬ id < 150) (hk : 10 ≤ k ∧ k < 20) (hx : cwE Y ad (s1 μ k σ') id = x) (h : ∀ j, ¬ j < 150 → j < 157 → j ≠ id → cwE Y ad (s1 μ k σ') j = cwE Y ad (s1 μ k σ) j) : (cwW Y ad (s1 μ k σ)).set id (ad id, x) = cwW Y ad (s1 μ k σ') := by
  refine cw_set hid hx (fun j hj hne => ?_)
  by_cases h1 : j < 150
  · exact cw_lo h1 (fun b hb => by rw [s1_n (by omega), s1_n (by omega)])
  · exact h j h1 hj hne
theorem cv_pSt {p : Program} {l : Launch} {e : Env} {R : Room} {s : State} {m : MethodId} {args : Array Value} {below : List Frame} {meth : Method} {c : Code} {cc : ByteArray} {nL : Nat} {own : String} {ret : Option FieldType} {D : va_G} {Y : cYt} {ad : Nat → Nat} {μ : Nat → Nat → Int32} {H : Heap} {locs : List Loc} {cells slots : Nat} {Q : State → Prop} {pc : Nat} {ls : Array Slot} {rest : List Value} (X : cX D Y p s m args meth c cc nL own ret) (hI : cInj ad) {σ : Nat → Int32} {k : Nat} (hk : k < 10) (hH : cH D Y ad (s1 μ k σ) s H locs) {index : Nat} {x : Int32} (i : Nat) (hi : 6 ≤ i ∧ i < 12) (hw : Cond.fieldLink own index "OreRailway$State" (TX3 i).2.1 (TX3 i).2.2.1 ∈ gw) (hdg : decode cc pc = .ok (.putfield index, 3)) (kk : ∀ (H1 : Heap) (locs1 : List Loc), cH D Y ad (s1 μ k (upd σ (156 + i) x)) s H1 locs1 → W p l e R s m args below meth c H1 locs1 cells slots Q (F0 m (pc + 3) ls rest)) : W p l e R s m args below meth c H locs cells slots Q (F0 m pc ls (.int x :: .ref (ad (15 * k)) :: rest)) := by
  have hty : tyX3 i = .int ∧ (TX3 i).2.2.2 = false := by
    obtain ⟨h1, h2⟩ := hi
    rcases (show i = 6 ∨ i = 7 ∨ i = 8 ∨ i = 9 ∨ i = 10 ∨ i = 11 by omega) with rfl | rfl | rfl | rfl | rfl | rfl <;> exact ⟨rfl, rfl⟩
  refine va_put (D := D) (ci := 3) (v := .int x) (ty := .int) (C := RX3) (T := TX3) (N := 12) X.1.1 X.1.2.1 X.1.2.2.2.2 inlX3 tyX3 tyX3_ok nmX3 X.1.2.2.2.1 X.2.2.2 hH.1 (cD hI) hH.2 (15 * k) (fs := stFs ad (15 * k) σ) (cw_ate (by omega) ((cw_st (r := 0) hk (by omega)).trans (by rw [s1_k]; rfl))) rfl i (by omega) (X.1.2.2.2.2 _ hw) (fun x h => by rw [TX3_c] at h; exact h) hty.2 ((tyX3_ok i (by omega)).trans (by rw [hty.1])) rfl rfl (by show i < 12; omega) hdg (fun H1 locs1 h1 _ h3 => kk H1 locs1 ⟨?_, h3⟩)
  have h4 := h1
  rw [stFs_set hi] at h4
  rw [← cw_up (r := 0) hk (by omega) (rg_0 (by omega) (by omega))]
  exact h4
theorem cv_pCar {p : Program} {l : Launch} {e : Env} {R : Room} {s : State} {m : MethodId} {args : Array Value} {below : List Frame} {meth : Method} {c : Code} {cc : ByteArray} {nL : Nat} {own : String} {ret : Option FieldType} {D : va_G} {Y : cYt} {ad : Nat → Nat} {μ : Nat → Nat → Int32} {H : Heap} {locs : List Loc} {cells slots : Nat} {Q : State → Prop} {pc : Nat} {ls : Array Slot} {rest : List Value} (X : cX D Y p s m args meth c cc nL own ret) (hI : cInj ad) {σ : Nat → Int32} {k : Nat} (hk : k < 10) {j : Nat} (hj : j < 8) (hH : cH D Y ad (s1 μ k σ) s H locs) {index : Nat} {x : Int32} (i : Nat) (hi : i < 9) (hw : Cond.fieldLink own index "OreRailway$Car" (TX0 i).2.1 (TX0 i).2.2.1 ∈ gw) (hdg : decode cc pc = .ok (.putfield index, 3)) (kk : ∀ (H1 : Heap) (locs1 : List Loc), cH D Y ad (s1 μ k (upd σ (90 + 9 * j + i) x)) s H1 locs1 → W p l e R s m args below meth c H1 locs1 cells slots Q (F0 m (pc + 3) ls rest)) : W p l e R s m args below meth c H locs cells slots Q (F0 m pc ls (.int x :: .ref (ad (15 * k + (j + 7))) :: rest)) := by
  have hty : tyX0 i = .int ∧ (TX0 i).2.2.2 = false := by
    rcases (show i = 0 ∨ i = 1 ∨ i = 2 ∨ i = 3 ∨ i = 4 ∨ i = 5 ∨ i = 6 ∨ i = 7 ∨ i = 8 by omega) with rfl | rfl | rfl | rfl | rfl | rfl | rfl | rfl | rfl <;> exact ⟨rfl, rfl⟩
  refine va_put (D := D) (ci := 0) (v := .int x) (ty := .int) (C := RX0) (T := TX0) (N := 9) X.1.1 X.1.2.1 X.1.2.2.2.2 inlX0 tyX0 tyX0_ok nmX0 X.1.2.2.2.1 X.2.2.2 hH.1 (cD hI) hH.2 (15 * k + (j + 7)) (fs := carFs σ (90 + 9 * j)) (cw_ate (by omega) ((cw_st (r := j + 7) hk (by omega)).trans (by rw [s1_k]; rfl))) rfl i (by omega) (X.1.2.2.2.2 _ hw) (fun x h => by rw [TX0_c] at h; exact h) hty.2 ((tyX0_ok i (by omega)).trans (by rw [hty.1])) rfl rfl (by show i < 9; omega) hdg (fun H1 locs1 h1 _ h3 => kk H1 locs1 ⟨?_, h3⟩)
  have h4 := h1
  rw [carFs_set hi] at h4
  rw [← cw_up (r := j + 7) hk (by omega) (rg_c hj hi)]
  exact h4
theorem cv_pHi {p : Program} {l : Launch} {e : Env} {R : Room} {s : State} {m : MethodId} {args : Array Value} {below : List Frame} {meth : Method} {c : Code} {cc : ByteArray} {nL : Nat} {own : String} {ret : Option FieldType} {D : va_G} {Y : cYt} {ad : Nat → Nat} {μ : Nat → Nat → Int32} {H : Heap} {locs : List Loc} {cells slots : Nat} {Q : State → Prop} {pc : Nat} {ls : Array Slot} {rest : List Value} (X : cX D Y p s m args meth c cc nL own ret) (hI : cInj ad) {σ : Nat → Int32}  (hH : cH D Y ad (s1 μ 10 σ) s H locs) {index : Nat} {x : Int32} (i : Nat) (hi : 1 ≤ i ∧ i < 3) (hw : Cond.fieldLink own index "OreRailway$History" (TX1 i).2.1 (TX1 i).2.2.1 ∈ gw) (hdg : decode cc pc = .ok (.putfield index, 3)) (kk : ∀ (H1 : Heap) (locs1 : List Loc), cH D Y ad (s1 μ 10 (upd σ (i) x)) s H1 locs1 → W p l e R s m args below meth c H1 locs1 cells slots Q (F0 m (pc + 3) ls rest)) : W p l e R s m args below meth c H locs cells slots Q (F0 m pc ls (.int x :: .ref (ad (151)) :: rest)) := by
  have hty : tyX1 i = .int ∧ (TX1 i).2.2.2 = false := by
    obtain ⟨h1, h2⟩ := hi
    rcases (show i = 1 ∨ i = 2 by omega) with rfl | rfl <;> exact ⟨rfl, rfl⟩
  refine va_put (D := D) (ci := 1) (v := .int x) (ty := .int) (C := RX1) (T := TX1) (N := 3) X.1.1 X.1.2.1 X.1.2.2.2.2 inlX1 tyX1 tyX1_ok nmX1 X.1.2.2.2.1 X.2.2.2 hH.1 (cD hI) hH.2 (151) (fs := [Value.ref (ad 152), .int (σ 1), .int (σ 2)]) (cw_ate (by omega) (rfl)) rfl i (by omega) (X.1.2.2.2.2 _ hw) (fun x h => by rw [TX1_c] at h; exact h) hty.2 ((tyX1_ok i (by omega)).trans (by rw [hty.1])) rfl rfl (by show i < 3; omega) hdg (fun H1 locs1 h1 _ h3 => kk H1 locs1 ⟨?_, h3⟩)
  have h4 := h1
  have h5 : (cwW Y ad (s1 μ 10 σ)).set 151 (ad 151, .inr (1, [Value.ref (ad 152), .int (σ 1), .int (σ 2)].set i (.int x))) = cwW Y ad (s1 μ 10 (upd σ i x)) := by
    refine cw_oth (by omega) (by omega) (by omega) ?_ (fun j h1 h2 h3 => ?_)
    · obtain ⟨h1, h2⟩ := hi
      rcases (show i = 1 ∨ i = 2 by omega) with rfl | rfl <;> simp [cwE, s1, upd]
    · rcases (show j = 150 ∨ j = 152 ∨ j = 153 ∨ j = 154 ∨ j = 155 ∨ j = 156 by omega) with rfl | rfl | rfl | rfl | rfl | rfl <;> simp [cwE, s1]
  rw [← h5]
  exact h4
theorem cv_pOr {p : Program} {l : Launch} {e : Env} {R : Room} {s : State} {m : MethodId} {args : Array Value} {below : List Frame} {meth : Method} {c : Code} {cc : ByteArray} {nL : Nat} {own : String} {ret : Option FieldType} {D : va_G} {Y : cYt} {ad : Nat → Nat} {μ : Nat → Nat → Int32} {H : Heap} {locs : List Loc} {cells slots : Nat} {Q : State → Prop} {pc : Nat} {ls : Array Slot} {rest : List Value} (X : cX D Y p s m args meth c cc nL own ret) (hI : cInj ad) {σ : Nat → Int32}  (hH : cH D Y ad (s1 μ 12 σ) s H locs) {index : Nat} {x : Int32} (i : Nat) (hi : i = 1) (hw : Cond.fieldLink own index "OreRailway$OrderText" (TX2 i).2.1 (TX2 i).2.2.1 ∈ gw) (hdg : decode cc pc = .ok (.putfield index, 3)) (kk : ∀ (H1 : Heap) (locs1 : List Loc), cH D Y ad (s1 μ 12 (upd σ (59 + i) x)) s H1 locs1 → W p l e R s m args below meth c H1 locs1 cells slots Q (F0 m (pc + 3) ls rest)) : W p l e R s m args below meth c H locs cells slots Q (F0 m pc ls (.int x :: .ref (ad (155)) :: rest)) := by
  have hty : tyX2 i = .int ∧ (TX2 i).2.2.2 = false := by
    subst hi
    exact ⟨rfl, rfl⟩
  refine va_put (D := D) (ci := 2) (v := .int x) (ty := .int) (C := RX2) (T := TX2) (N := 2) X.1.1 X.1.2.1 X.1.2.2.2.2 inlX2 tyX2 tyX2_ok nmX2 X.1.2.2.2.1 X.2.2.2 hH.1 (cD hI) hH.2 (155) (fs := [Value.ref (ad 156), .int (σ 60)]) (cw_ate (by omega) (rfl)) rfl i (by omega) (X.1.2.2.2.2 _ hw) (fun x h => by rw [TX2_c] at h; exact h) hty.2 ((tyX2_ok i (by omega)).trans (by rw [hty.1])) rfl rfl (by show i < 2; omega) hdg (fun H1 locs1 h1 _ h3 => kk H1 locs1 ⟨?_, h3⟩)
  have h4 := h1
  have h5 : (cwW Y ad (s1 μ 12 σ)).set 155 (ad 155, .inr (2, [Value.ref (ad 156), .int (σ 60)].set i (.int x))) = cwW Y ad (s1 μ 12 (upd σ (59 + i) x)) := by
    refine cw_oth (by omega) (by omega) (by omega) ?_ (fun j h1 h2 h3 => ?_)
    · subst hi
      simp [cwE, s1, upd]
    · rcases (show j = 150 ∨ j = 151 ∨ j = 152 ∨ j = 153 ∨ j = 154 ∨ j = 156 by omega) with rfl | rfl | rfl | rfl | rfl | rfl <;> try simp [cwE, s1]
      exact cut_congr (fun q h4 h5 => by simp [upd]; omega)
  rw [← h5]
  exact h4
theorem cv_st1 {p : Program} {l : Launch} {e : Env} {R : Room} {s : State} {m : MethodId} {args : Array Value} {below : List Frame} {meth : Method} {c : Code} {cc : ByteArray} {nL : Nat} {own : String} {ret : Option FieldType} {D : va_G} {Y : cYt} {ad : Nat → Nat} {μ : Nat → Nat → Int32} {H : Heap} {locs : List Loc} {cells slots : Nat} {Q : State → Prop} {pc : Nat} {ls : Array Slot} {rest : List Value} (X : cX D Y p s m args meth c cc nL own ret) (hI : cInj ad) {σ : Nat → Int32} {k : Nat} (hk : k < 10) (hH : cH D Y ad (s1 μ k σ) s H locs) {i x : Int32} (hi : vp_in i 30) (hdg : decode cc pc = .ok (.iastore, 1)) (kk : ∀ (H1 : Heap) (locs1 : List Loc), cH D Y ad (s1 μ k (upd σ (i.toNatClampNeg) x)) s H1 locs1 → W p l e R s m args below meth c H1 locs1 cells slots Q (F0 m (pc + 1) ls rest)) : W p l e R s m args below meth c H locs cells slots Q (F0 m pc ls (.int x :: .int i :: .ref (ad (15 * k + 1)) :: rest)) := by
  have hlt := vin_lt hi
  refine va_iast X.1.1 X.1.2.1 X.2.2.2 hH.1 (cD hI) hH.2 (15 * k + 1) 0 (cw_ate (by omega) ((cw_st (r := 1) hk (by omega)).trans (by rw [s1_k]; rfl))) rfl hi hdg (fun H1 locs1 h1 _ h3 => kk H1 locs1 ⟨?_, h3⟩)
  have h4 := h1
  rw [cut_upd hlt] at h4
  rw [Nat.zero_add] at h4
  rw [← cw_up (r := 1) hk (by omega) (rg_1 (by omega))]
  exact h4
theorem cv_cp1 {p : Program} {l : Launch} {e : Env} {R : Room} {s : State} {m : MethodId} {args : Array Value} {below : List Frame} {meth : Method} {c : Code} {cc : ByteArray} {nL : Nat} {own : String} {ret : Option FieldType} {D : va_G} {Y : cYt} {ad : Nat → Nat} {μ : Nat → Nat → Int32} {H : Heap} {locs : List Loc} {cells slots : Nat} {Q : State → Prop} {pc : Nat} {ls : Array Slot} {rest : List Value} (X : cX D Y p s m args meth c cc nL own ret) (hI : cInj ad) (hls : ls.size = nL) {σ τ : Nat → Int32} {k k2 : Nat} (hk : k < 10) (hk2 : k2 < 10) (hne : k2 ≠ k) (hM : μ k2 = τ) (hH : cH D Y ad (s1 μ k σ) s H locs) {index : Nat} (hlink : Cond.methodLink own index arraycopyName ∈ gw) (hfr : 1 ≤ R.frames) (hlo : (rest.map fun v => v.category).sum + (nativeFrameWords "java/lang/System" "arraycopy" 5 + 11) ≤ R.locals) (hdg : decode cc pc = .ok (.invokestatic index, 3)) (kk : ∀ (H1 : Heap) (locs1 : List Loc), cH D Y ad (s1 μ k (bl σ τ 0 30)) s H1 locs1 → W p l e R s m args below meth c H1 locs1 cells slots Q (F0 m (pc + 3) ls rest)) : W p l e R s m args below meth c H locs cells slots Q (F0 m pc ls (.int 30 :: .int 0 :: .ref (ad (15 * k + 1)) :: .int 0 :: .ref (ad (15 * k2 + 1)) :: rest)) := by
  refine va_copyi X.1.1 X.1.2.1 (X.1.2.2.1.trans hls.symm) X.1.2.2.2.1 (X.1.2.2.2.2 _ hlink) (X.1.2.2.2.2 _ gl_native_arraycopyName) (X.1.2.2.2.2 _ gl_static_arraycopyName) (X.1.2.2.2.2 _ gi_java_lang_System) X.2.2.2 hH.1 (cD hI) hH.2 (15 * k2 + 1) (15 * k + 1) 0 0 (f := cut 30 0 τ) (g := cut 30 0 σ) (cw_ate (by omega) ((cw_st (r := 1) hk2 (by omega)).trans (by rw [s1_n hne, hM]; rfl))) (cw_ate (by omega) ((cw_st (r := 1) hk (by omega)).trans (by rw [s1_k]; rfl))) rfl rfl rfl (by decide) (by decide) (by decide) (by decide) (by decide) (fun _ _ => rfl) hfr hlo hdg (fun H1 locs1 h1 _ h3 => kk H1 locs1 ⟨?_, h3⟩)
  have h4 := h1
  rw [show Int32.toNatClampNeg 0 = 0 from rfl, show Int32.toNatClampNeg 30 = 30 from rfl, cut_bl] at h4
  rw [← cw_vec (σ := σ) (σ' := bl σ τ 0 30) (r := 1) hk (by omega) (fun i hi hg => by unfold bl; exact if_neg (fun hc => hg (rg_1 (by omega))))]
  exact h4
theorem cv_st2 {p : Program} {l : Launch} {e : Env} {R : Room} {s : State} {m : MethodId} {args : Array Value} {below : List Frame} {meth : Method} {c : Code} {cc : ByteArray} {nL : Nat} {own : String} {ret : Option FieldType} {D : va_G} {Y : cYt} {ad : Nat → Nat} {μ : Nat → Nat → Int32} {H : Heap} {locs : List Loc} {cells slots : Nat} {Q : State → Prop} {pc : Nat} {ls : Array Slot} {rest : List Value} (X : cX D Y p s m args meth c cc nL own ret) (hI : cInj ad) {σ : Nat → Int32} {k : Nat} (hk : k < 10) (hH : cH D Y ad (s1 μ k σ) s H locs) {i x : Int32} (hi : vp_in i 30) (hdg : decode cc pc = .ok (.iastore, 1)) (kk : ∀ (H1 : Heap) (locs1 : List Loc), cH D Y ad (s1 μ k (upd σ (30 + i.toNatClampNeg) x)) s H1 locs1 → W p l e R s m args below meth c H1 locs1 cells slots Q (F0 m (pc + 1) ls rest)) : W p l e R s m args below meth c H locs cells slots Q (F0 m pc ls (.int x :: .int i :: .ref (ad (15 * k + 2)) :: rest)) := by
  have hlt := vin_lt hi
  refine va_iast X.1.1 X.1.2.1 X.2.2.2 hH.1 (cD hI) hH.2 (15 * k + 2) 0 (cw_ate (by omega) ((cw_st (r := 2) hk (by omega)).trans (by rw [s1_k]; rfl))) rfl hi hdg (fun H1 locs1 h1 _ h3 => kk H1 locs1 ⟨?_, h3⟩)
  have h4 := h1
  rw [cut_upd hlt] at h4
  rw [← cw_up (r := 2) hk (by omega) (rg_2 (by omega) (by omega))]
  exact h4
theorem cv_cp2 {p : Program} {l : Launch} {e : Env} {R : Room} {s : State} {m : MethodId} {args : Array Value} {below : List Frame} {meth : Method} {c : Code} {cc : ByteArray} {nL : Nat} {own : String} {ret : Option FieldType} {D : va_G} {Y : cYt} {ad : Nat → Nat} {μ : Nat → Nat → Int32} {H : Heap} {locs : List Loc} {cells slots : Nat} {Q : State → Prop} {pc : Nat} {ls : Array Slot} {rest : List Value} (X : cX D Y p s m args meth c cc nL own ret) (hI : cInj ad) (hls : ls.size = nL) {σ τ : Nat → Int32} {k k2 : Nat} (hk : k < 10) (hk2 : k2 < 10) (hne : k2 ≠ k) (hM : μ k2 = τ) (hH : cH D Y ad (s1 μ k σ) s H locs) {index : Nat} (hlink : Cond.methodLink own index arraycopyName ∈ gw) (hfr : 1 ≤ R.frames) (hlo : (rest.map fun v => v.category).sum + (nativeFrameWords "java/lang/System" "arraycopy" 5 + 11) ≤ R.locals) (hdg : decode cc pc = .ok (.invokestatic index, 3)) (kk : ∀ (H1 : Heap) (locs1 : List Loc), cH D Y ad (s1 μ k (bl σ τ 30 30)) s H1 locs1 → W p l e R s m args below meth c H1 locs1 cells slots Q (F0 m (pc + 3) ls rest)) : W p l e R s m args below meth c H locs cells slots Q (F0 m pc ls (.int 30 :: .int 0 :: .ref (ad (15 * k + 2)) :: .int 0 :: .ref (ad (15 * k2 + 2)) :: rest)) := by
  refine va_copyi X.1.1 X.1.2.1 (X.1.2.2.1.trans hls.symm) X.1.2.2.2.1 (X.1.2.2.2.2 _ hlink) (X.1.2.2.2.2 _ gl_native_arraycopyName) (X.1.2.2.2.2 _ gl_static_arraycopyName) (X.1.2.2.2.2 _ gi_java_lang_System) X.2.2.2 hH.1 (cD hI) hH.2 (15 * k2 + 2) (15 * k + 2) 0 0 (f := cut 30 30 τ) (g := cut 30 30 σ) (cw_ate (by omega) ((cw_st (r := 2) hk2 (by omega)).trans (by rw [s1_n hne, hM]; rfl))) (cw_ate (by omega) ((cw_st (r := 2) hk (by omega)).trans (by rw [s1_k]; rfl))) rfl rfl rfl (by decide) (by decide) (by decide) (by decide) (by decide) (fun _ _ => rfl) hfr hlo hdg (fun H1 locs1 h1 _ h3 => kk H1 locs1 ⟨?_, h3⟩)
  have h4 := h1
  rw [show Int32.toNatClampNeg 0 = 0 from rfl, show Int32.toNatClampNeg 30 = 30 from rfl, cut_bl] at h4
  rw [← cw_vec (σ := σ) (σ' := bl σ τ 30 30) (r := 2) hk (by omega) (fun i hi hg => by unfold bl; exact if_neg (fun hc => hg (rg_2 (by omega) (by omega))))]
  exact h4
theorem cv_st3 {p : Program} {l : Launch} {e : Env} {R : Room} {s : State} {m : MethodId} {args : Array Value} {below : List Frame} {meth : Method} {c : Code} {cc : ByteArray} {nL : Nat} {own : String} {ret : Option FieldType} {D : va_G} {Y : cYt} {ad : Nat → Nat} {μ : Nat → Nat → Int32} {H : Heap} {locs : List Loc} {cells slots : Nat} {Q : State → Prop} {pc : Nat} {ls : Array Slot} {rest : List Value} (X : cX D Y p s m args meth c cc nL own ret) (hI : cInj ad) {σ : Nat → Int32} {k : Nat} (hk : k < 10) (hH : cH D Y ad (s1 μ k σ) s H locs) {i x : Int32} (hi : vp_in i 30) (hdg : decode cc pc = .ok (.iastore, 1)) (kk : ∀ (H1 : Heap) (locs1 : List Loc), cH D Y ad (s1 μ k (upd σ (60 + i.toNatClampNeg) x)) s H1 locs1 → W p l e R s m args below meth c H1 locs1 cells slots Q (F0 m (pc + 1) ls rest)) : W p l e R s m args below meth c H locs cells slots Q (F0 m pc ls (.int x :: .int i :: .ref (ad (15 * k + 3)) :: rest)) := by
  have hlt := vin_lt hi
  refine va_iast X.1.1 X.1.2.1 X.2.2.2 hH.1 (cD hI) hH.2 (15 * k + 3) 0 (cw_ate (by omega) ((cw_st (r := 3) hk (by omega)).trans (by rw [s1_k]; rfl))) rfl hi hdg (fun H1 locs1 h1 _ h3 => kk H1 locs1 ⟨?_, h3⟩)
  have h4 := h1
  rw [cut_upd hlt] at h4
  rw [← cw_up (r := 3) hk (by omega) (rg_3 (by omega) (by omega))]
  exact h4
theorem cv_cp3 {p : Program} {l : Launch} {e : Env} {R : Room} {s : State} {m : MethodId} {args : Array Value} {below : List Frame} {meth : Method} {c : Code} {cc : ByteArray} {nL : Nat} {own : String} {ret : Option FieldType} {D : va_G} {Y : cYt} {ad : Nat → Nat} {μ : Nat → Nat → Int32} {H : Heap} {locs : List Loc} {cells slots : Nat} {Q : State → Prop} {pc : Nat} {ls : Array Slot} {rest : List Value} (X : cX D Y p s m args meth c cc nL own ret) (hI : cInj ad) (hls : ls.size = nL) {σ τ : Nat → Int32} {k k2 : Nat} (hk : k < 10) (hk2 : k2 < 10) (hne : k2 ≠ k) (hM : μ k2 = τ) (hH : cH D Y ad (s1 μ k σ) s H locs) {index : Nat} (hlink : Cond.methodLink own index arraycopyName ∈ gw) (hfr : 1 ≤ R.frames) (hlo : (rest.map fun v => v.category).sum + (nativeFrameWords "java/lang/System" "arraycopy" 5 + 11) ≤ R.locals) (hdg : decode cc pc = .ok (.invokestatic index, 3)) (kk : ∀ (H1 : Heap) (locs1 : List Loc), cH D Y ad (s1 μ k (bl σ τ 60 30)) s H1 locs1 → W p l e R s m args below meth c H1 locs1 cells slots Q (F0 m (pc + 3) ls rest)) : W p l e R s m args below meth c H locs cells slots Q (F0 m pc ls (.int 30 :: .int 0 :: .ref (ad (15 * k + 3)) :: .int 0 :: .ref (ad (15 * k2 + 3)) :: rest)) := by
  refine va_copyi X.1.1 X.1.2.1 (X.1.2.2.1.trans hls.symm) X.1.2.2.2.1 (X.1.2.2.2.2 _ hlink) (X.1.2.2.2.2 _ gl_native_arraycopyName) (X.1.2.2.2.2 _ gl_static_arraycopyName) (X.1.2.2.2.2 _ gi_java_lang_System) X.2.2.2 hH.1 (cD hI) hH.2 (15 * k2 + 3) (15 * k + 3) 0 0 (f := cut 30 60 τ) (g := cut 30 60 σ) (cw_ate (by omega) ((cw_st (r := 3) hk2 (by omega)).trans (by rw [s1_n hne, hM]; rfl))) (cw_ate (by omega) ((cw_st (r := 3) hk (by omega)).trans (by rw [s1_k]; rfl))) rfl rfl rfl (by decide) (by decide) (by decide) (by decide) (by decide) (fun _ _ => rfl) hfr hlo hdg (fun H1 locs1 h1 _ h3 => kk H1 locs1 ⟨?_, h3⟩)
  have h4 := h1
  rw [show Int32.toNatClampNeg 0 = 0 from rfl, show Int32.toNatClampNeg 30 = 30 from rfl, cut_bl] at h4
  rw [← cw_vec (σ := σ) (σ' := bl σ τ 60 30) (r := 3) hk (by omega) (fun i hi hg => by unfold bl; exact if_neg (fun hc => hg (rg_3 (by omega) (by omega))))]
  exact h4
theorem cv_st4 {p : Program} {l : Launch} {e : Env} {R : Room} {s : State} {m : MethodId} {args : Array Value} {below : List Frame} {meth : Method} {c : Code} {cc : ByteArray} {nL : Nat} {own : String} {ret : Option FieldType} {D : va_G} {Y : cYt} {ad : Nat → Nat} {μ : Nat → Nat → Int32} {H : Heap} {locs : List Loc} {cells slots : Nat} {Q : State → Prop} {pc : Nat} {ls : Array Slot} {rest : List Value} (X : cX D Y p s m args meth c cc nL own ret) (hI : cInj ad) {σ : Nat → Int32} {k : Nat} (hk : k < 10) (hH : cH D Y ad (s1 μ k σ) s H locs) {i x : Int32} (hi : vp_in i 3) (hdg : decode cc pc = .ok (.iastore, 1)) (kk : ∀ (H1 : Heap) (locs1 : List Loc), cH D Y ad (s1 μ k (upd σ (168 + i.toNatClampNeg) x)) s H1 locs1 → W p l e R s m args below meth c H1 locs1 cells slots Q (F0 m (pc + 1) ls rest)) : W p l e R s m args below meth c H locs cells slots Q (F0 m pc ls (.int x :: .int i :: .ref (ad (15 * k + 4)) :: rest)) := by
  have hlt := vin_lt hi
  refine va_iast X.1.1 X.1.2.1 X.2.2.2 hH.1 (cD hI) hH.2 (15 * k + 4) 0 (cw_ate (by omega) ((cw_st (r := 4) hk (by omega)).trans (by rw [s1_k]; rfl))) rfl hi hdg (fun H1 locs1 h1 _ h3 => kk H1 locs1 ⟨?_, h3⟩)
  have h4 := h1
  rw [cut_upd hlt] at h4
  rw [← cw_up (r := 4) hk (by omega) (rg_4 (by omega))]
  exact h4
theorem cv_cp4 {p : Program} {l : Launch} {e : Env} {R : Room} {s : State} {m : MethodId} {args : Array Value} {below : List Frame} {meth : Method} {c : Code} {cc : ByteArray} {nL : Nat} {own : String} {ret : Option FieldType} {D : va_G} {Y : cYt} {ad : Nat → Nat} {μ : Nat → Nat → Int32} {H : Heap} {locs : List Loc} {cells slots : Nat} {Q : State → Prop} {pc : Nat} {ls : Array Slot} {rest : List Value} (X : cX D Y p s m args meth c cc nL own ret) (hI : cInj ad) (hls : ls.size = nL) {σ τ : Nat → Int32} {k k2 : Nat} (hk : k < 10) (hk2 : k2 < 10) (hne : k2 ≠ k) (hM : μ k2 = τ) (hH : cH D Y ad (s1 μ k σ) s H locs) {index : Nat} (hlink : Cond.methodLink own index arraycopyName ∈ gw) (hfr : 1 ≤ R.frames) (hlo : (rest.map fun v => v.category).sum + (nativeFrameWords "java/lang/System" "arraycopy" 5 + 11) ≤ R.locals) (hdg : decode cc pc = .ok (.invokestatic index, 3)) (kk : ∀ (H1 : Heap) (locs1 : List Loc), cH D Y ad (s1 μ k (bl σ τ 168 3)) s H1 locs1 → W p l e R s m args below meth c H1 locs1 cells slots Q (F0 m (pc + 3) ls rest)) : W p l e R s m args below meth c H locs cells slots Q (F0 m pc ls (.int 3 :: .int 0 :: .ref (ad (15 * k + 4)) :: .int 0 :: .ref (ad (15 * k2 + 4)) :: rest)) := by
  refine va_copyi X.1.1 X.1.2.1 (X.1.2.2.1.trans hls.symm) X.1.2.2.2.1 (X.1.2.2.2.2 _ hlink) (X.1.2.2.2.2 _ gl_native_arraycopyName) (X.1.2.2.2.2 _ gl_static_arraycopyName) (X.1.2.2.2.2 _ gi_java_lang_System) X.2.2.2 hH.1 (cD hI) hH.2 (15 * k2 + 4) (15 * k + 4) 0 0 (f := cut 3 168 τ) (g := cut 3 168 σ) (cw_ate (by omega) ((cw_st (r := 4) hk2 (by omega)).trans (by rw [s1_n hne, hM]; rfl))) (cw_ate (by omega) ((cw_st (r := 4) hk (by omega)).trans (by rw [s1_k]; rfl))) rfl rfl rfl (by decide) (by decide) (by decide) (by decide) (by decide) (fun _ _ => rfl) hfr hlo hdg (fun H1 locs1 h1 _ h3 => kk H1 locs1 ⟨?_, h3⟩)
  have h4 := h1
  rw [show Int32.toNatClampNeg 0 = 0 from rfl, show Int32.toNatClampNeg 3 = 3 from rfl, cut_bl] at h4
  rw [← cw_vec (σ := σ) (σ' := bl σ τ 168 3) (r := 4) hk (by omega) (fun i hi hg => by unfold bl; exact if_neg (fun hc => hg (rg_4 (by omega))))]
  exact h4
theorem cv_st6 {p : Program} {l : Launch} {e : Env} {R : Room} {s : State} {m : MethodId} {args : Array Value} {below : List Frame} {meth : Method} {c : Code} {cc : ByteArray} {nL : Nat} {own : String} {ret : Option FieldType} {D : va_G} {Y : cYt} {ad : Nat → Nat} {μ : Nat → Nat → Int32} {H : Heap} {locs : List Loc} {cells slots : Nat} {Q : State → Prop} {pc : Nat} {ls : Array Slot} {rest : List Value} (X : cX D Y p s m args meth c cc nL own ret) (hI : cInj ad) {σ τ : Nat → Int32} {k : Nat} (hk : k < 10) (hH : cH D Y ad (s1 (s1 μ (k + 20) τ) k σ) s H locs) {i x : Int32} (hi : vp_in i 8) (hdg : decode cc pc = .ok (.iastore, 1)) (kk : ∀ (H1 : Heap) (locs1 : List Loc), cH D Y ad (s1 (s1 μ (k + 20) (upd τ i.toNatClampNeg x)) k σ) s H1 locs1 → W p l e R s m args below meth c H1 locs1 cells slots Q (F0 m (pc + 1) ls rest)) : W p l e R s m args below meth c H locs cells slots Q (F0 m pc ls (.int x :: .int i :: .ref (ad (15 * k + 6)) :: rest)) := by
  have hlt := vin_lt hi
  rw [s1_c (by omega)] at hH
  refine va_iast X.1.1 X.1.2.1 X.2.2.2 hH.1 (cD hI) hH.2 (15 * k + 6) 0 (cw_ate (by omega) ((cw_st (r := 6) hk (by omega)).trans (by rw [s1_k]; rfl))) rfl hi hdg (fun H1 locs1 h1 _ h3 => kk H1 locs1 ⟨?_, h3⟩)
  have h4 := h1
  rw [cut_upd hlt, Nat.zero_add] at h4
  rw [s1_c (by omega), ← cw_mv (σ := τ) hk]
  exact h4
theorem cv_stk {p : Program} {l : Launch} {e : Env} {R : Room} {s : State} {m : MethodId} {args : Array Value} {below : List Frame} {meth : Method} {c : Code} {cc : ByteArray} {nL : Nat} {own : String} {ret : Option FieldType} {D : va_G} {Y : cYt} {ad : Nat → Nat} {μ : Nat → Nat → Int32} {H : Heap} {locs : List Loc} {cells slots : Nat} {Q : State → Prop} {pc : Nat} {ls : Array Slot} {rest : List Value} (X : cX D Y p s m args meth c cc nL own ret) (hI : cInj ad) {σ : Nat → Int32} (hH : cH D Y ad (s1 μ 11 σ) s H locs) {i x : Int32} (hi : vp_in i 2) (hdg : decode cc pc = .ok (.bastore, 1)) (kk : ∀ (H1 : Heap) (locs1 : List Loc), cH D Y ad (s1 μ 11 (upd σ i.toNatClampNeg (vp_nar .boolean x))) s H1 locs1 → W p l e R s m args below meth c H1 locs1 cells slots Q (F0 m (pc + 1) ls rest)) : W p l e R s m args below meth c H locs cells slots Q (F0 m pc ls (.int x :: .int i :: .ref (ad 154) :: rest)) := by
  have hlt := vin_lt hi
  refine va_zast X.1.1 X.1.2.1 X.2.2.2 hH.1 (cD hI) hH.2 154 2 (f := cut 2 0 σ) (cw_ate (by omega) rfl) rfl hi hdg (fun H1 locs1 h1 _ h3 => kk H1 locs1 ⟨?_, h3⟩)
  have h4 := h1
  rw [cut_upd hlt, Nat.zero_add] at h4
  rw [← cw_oth (id := 154) (σ := σ) (x := .inl (Y.2.2.1, 2, .inl (cut 2 0 (upd σ i.toNatClampNeg (vp_nar .boolean x))))) (by omega) (by omega) (by omega) rfl (fun j h1 h2 h3 => ?_)]
  · exact h4
  · rcases (show j = 150 ∨ j = 151 ∨ j = 152 ∨ j = 153 ∨ j = 155 ∨ j = 156 by omega) with rfl | rfl | rfl | rfl | rfl | rfl <;> simp [cwE, s1]
theorem cv_stt {p : Program} {l : Launch} {e : Env} {R : Room} {s : State} {m : MethodId} {args : Array Value} {below : List Frame} {meth : Method} {c : Code} {cc : ByteArray} {nL : Nat} {own : String} {ret : Option FieldType} {D : va_G} {Y : cYt} {ad : Nat → Nat} {μ : Nat → Nat → Int32} {H : Heap} {locs : List Loc} {cells slots : Nat} {Q : State → Prop} {pc : Nat} {ls : Array Slot} {rest : List Value} (X : cX D Y p s m args meth c cc nL own ret) (hI : cInj ad) {σ : Nat → Int32} (hH : cH D Y ad (s1 μ 12 σ) s H locs) {i x : Int32} (hi : vp_in i 60) (hdg : decode cc pc = .ok (.castore, 1)) (kk : ∀ (H1 : Heap) (locs1 : List Loc), cH D Y ad (s1 μ 12 (upd σ i.toNatClampNeg (vp_nar .char x))) s H1 locs1 → W p l e R s m args below meth c H1 locs1 cells slots Q (F0 m (pc + 1) ls rest)) : W p l e R s m args below meth c H locs cells slots Q (F0 m pc ls (.int x :: .int i :: .ref (ad 156) :: rest)) := by
  have hlt := vin_lt hi
  refine va_cast X.1.1 X.1.2.1 X.2.2.2 hH.1 (cD hI) hH.2 156 1 (f := cut 60 0 σ) (cw_ate (by omega) rfl) rfl hi hdg (fun H1 locs1 h1 _ h3 => kk H1 locs1 ⟨?_, h3⟩)
  have h4 := h1
  rw [cut_upd hlt, Nat.zero_add] at h4
  rw [← cw_oth (id := 156) (σ := σ) (x := .inl (Y.2.1, 60, .inl (cut 60 0 (upd σ i.toNatClampNeg (vp_nar .char x))))) (by omega) (by omega) (by omega) rfl (fun j h1 h2 h3 => ?_)]
  · exact h4
  · rcases (show j = 150 ∨ j = 151 ∨ j = 152 ∨ j = 153 ∨ j = 154 ∨ j = 155 by omega) with rfl | rfl | rfl | rfl | rfl | rfl <;> simp [cwE, s1, upd] <;> omega
theorem cr_iw {p : Program} {l : Launch} {e : Env} {R : Room} {s : State} {m : MethodId} {args : Array Value} {below : List Frame} {meth : Method} {c : Code} {cc : ByteArray} {nL : Nat} {own : String} {ret : Option FieldType} {D : va_G} {Y : cYt} {ad : Nat → Nat} {μ : Nat → Nat → Int32} {H : Heap} {locs : List Loc} {pc : Nat} {ls : Array Slot} (X : cX D Y p s m args meth c cc nL own ret) (hH : cH D Y ad μ s H locs) {v : Int32} (hr : ret = some .int) (hdg : decode cc pc = .ok (.ireturn, 1)) : W p l e R s m args below meth c H locs 0 0 (MQ below (va_Qi (fun (r9 : Int32) (_ : Unit) => r9 = v) (fun _ t => cB D Y ad μ t) (cA ad s.heap.size)) args s 0 0 (cA ad s.heap.size)) (F0 m pc ls [.int v]) := W.iret (v := v) X.1.1 X.1.2.1 (X.2.1.trans hr) (fun t ht hW => ⟨⟨v, (), rfl, rfl, by rw [ht]; exact hH.1, va_K.moved hW.alike X.2.2.2⟩, hH.2.F ht⟩) hH.2.2.2 hdg X.2.2.1
theorem cr_zw {p : Program} {l : Launch} {e : Env} {R : Room} {s : State} {m : MethodId} {args : Array Value} {below : List Frame} {meth : Method} {c : Code} {cc : ByteArray} {nL : Nat} {own : String} {ret : Option FieldType} {D : va_G} {Y : cYt} {ad : Nat → Nat} {μ : Nat → Nat → Int32} {H : Heap} {locs : List Loc} {pc : Nat} {ls : Array Slot} (X : cX D Y p s m args meth c cc nL own ret) (hH : cH D Y ad μ s H locs) {v : Int32} {ty : FieldType} (hr : ret = some ty) (hn : narrow ty (.int v) = .int v) (hdg : decode cc pc = .ok (.ireturn, 1)) : W p l e R s m args below meth c H locs 0 0 (MQ below (va_Qi (fun (r9 : Int32) (_ : Unit) => r9 = v) (fun _ t => cB D Y ad μ t) (cA ad s.heap.size)) args s 0 0 (cA ad s.heap.size)) (F0 m pc ls [.int v]) := W.zret (v := v) X.1.1 X.1.2.1 (X.2.1.trans hr) hn (fun t ht hW => ⟨⟨v, (), rfl, rfl, by rw [ht]; exact hH.1, va_K.moved hW.alike X.2.2.2⟩, hH.2.F ht⟩) hH.2.2.2 hdg X.2.2.1
theorem cr_vw {p : Program} {l : Launch} {e : Env} {R : Room} {s : State} {m : MethodId} {args : Array Value} {below : List Frame} {meth : Method} {c : Code} {cc : ByteArray} {nL : Nat} {own : String} {ret : Option FieldType} {D : va_G} {Y : cYt} {ad : Nat → Nat} {μ : Nat → Nat → Int32} {H : Heap} {locs : List Loc} {pc : Nat} {ls : Array Slot} (X : cX D Y p s m args meth c cc nL own ret) (hH : cH D Y ad μ s H locs) (hr : ret = none) (hdg : decode cc pc = .ok (.return_, 1)) : W p l e R s m args below meth c H locs 0 0 (MQ below (va_Qv (fun (_ : Unit) => True) (fun _ t => cB D Y ad μ t) (cA ad s.heap.size)) args s 0 0 (cA ad s.heap.size)) (F0 m pc ls []) := W.vret X.1.1 X.1.2.1 (X.2.1.trans hr) (fun t ht hW => ⟨⟨(), rfl, trivial, by rw [ht]; exact hH.1, va_K.moved hW.alike X.2.2.2⟩, hH.2.F ht⟩) hH.2.2.2 hdg X.2.2.1
