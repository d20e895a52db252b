/-! p29: same -/
def SM (mu nu : Nat → Nat → Int32) : Prop :=
  (∃ r, f4_meanSpeed_0 mu = some r ∧ f4_meanSpeed_0 nu = some r ∧ Op.cmpValue (FP.fcmp r r) .l = 0) ∧ (∀ k, k < 14 → k ≠ 10 → ∃ v, f6_count_0 mu (nI k) = some v ∧ f6_count_0 nu (nI k) = some v) ∧ (∀ c k, c < 8 → k < 10 → ∃ v, f6_carOf_0 mu (nI c) (nI k) = some v ∧ f6_carOf_0 nu (nI c) (nI k) = some v) ∧ (∀ p j, p < 30 → j ≤ 4 → ∃ v, f6_section_0 mu (nI p) (nI j) = some v ∧ f6_section_0 nu (nI p) (nI j) = some v)
theorem sm_s {mu nu : Nat → Nat → Int32} {S : Stt} {B : Int} (h : AS mu S) (h2 : AS nu S) (hJ : JS B S) : SM mu nu := by
  obtain ⟨N, hN⟩ := hJ.1
  have hN8 := hN.2.1
  have hw := hN.2.2.1
  obtain ⟨r, m1, m2, m3⟩ := ms_s hN.1 hN8 hw
  refine ⟨⟨r, m1 mu h.1, m1 nu h2.1, m2⟩, fun k hk h10 => ⟨_, cn_s h hN8 hw (by omega) h10, cn_s h2 hN8 hw (by omega) h10⟩, fun c k hc hk => ?_, fun p j hp hj => ⟨_, se_s h hN8 hw hp hj, se_s h2 hN8 hw hp hj⟩⟩
  by_cases q : c < N
  · exact ⟨_, cr_s h hN8 hw q (by omega), cr_s h2 hN8 hw q (by omega)⟩
  · have hx : ¬ (0 ≤ nI c ∧ nI c < nI N) := fun z => q ((n_lt (by omega) (by omega)).mp z.2)
    exact ⟨_, cr_no h hN8 hw hx, cr_no h2 hN8 hw hx⟩
def rm6_same : Room := { frames := 9, cells := 1104, slots := 6624, locals := 200 }
section Same
variable {p : Program} {l : Launch} {e : Env} {s : State} {m : MethodId} {args : Array Value} {below : List Frame} {meth : Method} {c : Code} {D : va_G} {Y : cYt} {A : Nat → Prop} {ad bd : Nat → Nat} {mu nu : Nat → Nat → Int32}
def sQ (D : va_G) (Y : cYt) (ad bd : Nat → Nat) (mu nu : Nat → Nat → Int32) (below : List Frame) (args : Array Value) (s : State) : State → Prop := MQ below (va_Qi (fun (r9 : Int32) (_ : Unit) => r9 = 1) (fun _ t9 => cB D Y ad mu t9 ∧ va_P D vwCl (cwW Y bd nu) t9.heap) (cA2 ad bd s.heap.size)) args s 1104 6624 (cA2 ad bd s.heap.size)
def sL (ad bd : Nat → Nat) (k : Nat) : List (Nat × Value) := [(0, .ref (ad 150)), (1, .ref (bd 150)), (2, .int 1), (3, .int (nI k))]
set_option maxRecDepth 100000 in
set_option maxHeartbeats 4000000 in
theorem sm_124 (X : cX D Y p s m args meth c cL_same 5 RL (some .boolean)) (hl0 : l.stackTraces = false) (Z : dZ (cA2 ad bd s.heap.size) ad bd s) (M : SM mu nu) : ∀ (d k cells slots : Nat) (H : Heap) (locs : List Loc) (ls : Array Slot), 30 - k = d → k ≤ 30 → cells + 18 * d ≤ 1104 → slots + 108 * d ≤ 6624 → d2 D Y (cA2 ad bd s.heap.size) ad bd mu nu s H locs → lv_has ls 5 [(3, .int (nI k)), (0, .ref (ad 150)), (1, .ref (bd 150)), (2, .int 1)] → W p l e rm6_same s m args below meth c H locs cells slots (sQ D Y ad bd mu nu below args s) (F0 m 124 ls []) := by
  obtain ⟨⟨hx, hb, hml, hown, hts⟩, hr, hlk, hK⟩ := id X
  obtain ⟨M1, M2, M3, M4⟩ := M
  intro d
  induction d with
  | zero =>
    intro k cells slots H locs ls hd hk hc1 hc2 hH hl
    obtain rfl : k = 30 := by omega
    refine lv_iload_n hx hb dL_same_124 rfl (lv_at hl 0 rfl) ?_
    refine lv_bipush (v := 30) hx hb dL_same_125 (by decide) ?_
    refine lv_icmp_ge (tgt := 191) hx hb dL_same_127 (by decide) (fun _ => ?_) (fun c1 => absurd (by decide) c1)
    refine lv_iload_n hx hb dL_same_191 rfl (lv_at hl 3 rfl) ?_
    exact W.widen (k := 1104) (n := 6624) (by omega) (by omega) (W.zret (v := 1) hx hb hr (nz_z (Or.inr rfl)) (fun t ht hW => ⟨⟨1, (), rfl, rfl, ⟨by rw [ht]; exact hH.1, va_K.moved hW.alike hK⟩, by rw [ht]; exact hH.2.1⟩, hH.2.2.F ht⟩) hH.2.2.2.2 dL_same_192 hlk)
  | succ d ih =>
    intro k cells slots H locs ls hd hk hc1 hc2 hH hl
    have n30 : ¬ (30 : Int32) ≤ nI k := by rw [show (30 : Int32) = nI 30 from rfl, n_le (by omega) (by omega)]; omega
    obtain ⟨v0, a0, b0⟩ := M4 k 0 (by omega) (by omega)
    obtain ⟨v1, a1, b1⟩ := M4 k 1 (by omega) (by omega)
    obtain ⟨v4, a4, b4⟩ := M4 k 4 (by omega) (by omega)
    have a0 : f6_section_0 mu (nI k) 0 = some v0 := a0
    have b0 : f6_section_0 nu (nI k) 0 = some v0 := b0
    have a1 : f6_section_0 mu (nI k) 1 = some v1 := a1
    have b1 : f6_section_0 nu (nI k) 1 = some v1 := b1
    have a4 : f6_section_0 mu (nI k) 4 = some v4 := a4
    have b4 : f6_section_0 nu (nI k) 4 = some v4 := b4
    refine lv_iload_n hx hb dL_same_124 rfl (lv_at hl 0 rfl) ?_
    refine lv_bipush (v := 30) hx hb dL_same_125 (by decide) ?_
    refine lv_icmp_ge (tgt := 191) hx hb dL_same_127 (by decide) (fun c1 => absurd c1 n30) (fun _ => ?_)
    refine lv_iload_n hx hb dL_same_130 rfl (lv_at hl 3 rfl) ?_
    refine lv_if_eq (tgt := 191) hx hb dL_same_131 (by decide) (fun c1 => absurd c1 (by decide)) (fun _ => ?_)
    refine lv_aload_n hx hb dL_same_134 rfl (lv_at hl 1 rfl) ?_
    refine lv_iload_n hx hb dL_same_135 rfl (lv_at hl 0 rfl) ?_
    refine lv_iconst (v := 0) hx hb dL_same_136 (by decide) ?_
    refine ko (MC := 1104) (MS := 6624) (As := [.ref (ad 150), .int (nI k), .int (0)]) (rest := []) ⟨rfl, rfl⟩ X Z hH (h6_section l Z.2.1.1 hl0 _ (nI k) (0) a0) (vx_cwSW 3 hts qL_136 rfl rfl rfl (by decide +kernel) ⟨Nat.le_of_ble_eq_true rfl, Nat.le_of_ble_eq_true rfl⟩) rfl hl.1 rfl (Nat.le_of_ble_eq_true rfl) dL_same_137 ⟨by omega, by omega⟩ (fun H locs hH => ?_)
    refine lv_aload_n hx hb dL_same_140 rfl (lv_at hl 2 rfl) ?_
    refine lv_iload_n hx hb dL_same_141 rfl (lv_at hl 0 rfl) ?_
    refine lv_iconst (v := 0) hx hb dL_same_142 (by decide) ?_
    refine kq (MC := 1104) (MS := 6624) (As := [.ref (bd 150), .int (nI k), .int (0)]) (rest := [.int v0]) ⟨rfl, rfl⟩ X Z hH (h6_section l Z.2.1.2.1 hl0 _ (nI k) (0) b0) (vx_cwSW 3 hts qL_136 rfl rfl rfl (by decide +kernel) ⟨Nat.le_of_ble_eq_true rfl, Nat.le_of_ble_eq_true rfl⟩) rfl hl.1 rfl (Nat.le_of_ble_eq_true rfl) dL_same_143 ⟨by omega, by omega⟩ (fun H locs hH => ?_)
    refine lv_icmp_ne (tgt := 183) hx hb dL_same_146 (by decide) (fun c1 => absurd rfl c1) (fun _ => ?_)
    refine lv_aload_n hx hb dL_same_149 rfl (lv_at hl 1 rfl) ?_
    refine lv_iload_n hx hb dL_same_150 rfl (lv_at hl 0 rfl) ?_
    refine lv_iconst (v := 1) hx hb dL_same_151 (by decide) ?_
    refine ko (MC := 1104) (MS := 6624) (As := [.ref (ad 150), .int (nI k), .int (1)]) (rest := []) ⟨rfl, rfl⟩ X Z hH (h6_section l Z.2.1.1 hl0 _ (nI k) (1) a1) (vx_cwSW 3 hts qL_136 rfl rfl rfl (by decide +kernel) ⟨Nat.le_of_ble_eq_true rfl, Nat.le_of_ble_eq_true rfl⟩) rfl hl.1 rfl (Nat.le_of_ble_eq_true rfl) dL_same_152 ⟨by omega, by omega⟩ (fun H locs hH => ?_)
    refine lv_aload_n hx hb dL_same_155 rfl (lv_at hl 2 rfl) ?_
    refine lv_iload_n hx hb dL_same_156 rfl (lv_at hl 0 rfl) ?_
    refine lv_iconst (v := 1) hx hb dL_same_157 (by decide) ?_
    refine kq (MC := 1104) (MS := 6624) (As := [.ref (bd 150), .int (nI k), .int (1)]) (rest := [.int v1]) ⟨rfl, rfl⟩ X Z hH (h6_section l Z.2.1.2.1 hl0 _ (nI k) (1) b1) (vx_cwSW 3 hts qL_136 rfl rfl rfl (by decide +kernel) ⟨Nat.le_of_ble_eq_true rfl, Nat.le_of_ble_eq_true rfl⟩) rfl hl.1 rfl (Nat.le_of_ble_eq_true rfl) dL_same_158 ⟨by omega, by omega⟩ (fun H locs hH => ?_)
    refine lv_icmp_ne (tgt := 183) hx hb dL_same_161 (by decide) (fun c1 => absurd rfl c1) (fun _ => ?_)
    refine lv_aload_n hx hb dL_same_164 rfl (lv_at hl 1 rfl) ?_
    refine lv_iload_n hx hb dL_same_165 rfl (lv_at hl 0 rfl) ?_
    refine lv_iconst (v := 4) hx hb dL_same_166 (by decide) ?_
    refine ko (MC := 1104) (MS := 6624) (As := [.ref (ad 150), .int (nI k), .int (4)]) (rest := []) ⟨rfl, rfl⟩ X Z hH (h6_section l Z.2.1.1 hl0 _ (nI k) (4) a4) (vx_cwSW 3 hts qL_136 rfl rfl rfl (by decide +kernel) ⟨Nat.le_of_ble_eq_true rfl, Nat.le_of_ble_eq_true rfl⟩) rfl hl.1 rfl (Nat.le_of_ble_eq_true rfl) dL_same_167 ⟨by omega, by omega⟩ (fun H locs hH => ?_)
    refine lv_aload_n hx hb dL_same_170 rfl (lv_at hl 2 rfl) ?_
    refine lv_iload_n hx hb dL_same_171 rfl (lv_at hl 0 rfl) ?_
    refine lv_iconst (v := 4) hx hb dL_same_172 (by decide) ?_
    refine kq (MC := 1104) (MS := 6624) (As := [.ref (bd 150), .int (nI k), .int (4)]) (rest := [.int v4]) ⟨rfl, rfl⟩ X Z hH (h6_section l Z.2.1.2.1 hl0 _ (nI k) (4) b4) (vx_cwSW 3 hts qL_136 rfl rfl rfl (by decide +kernel) ⟨Nat.le_of_ble_eq_true rfl, Nat.le_of_ble_eq_true rfl⟩) rfl hl.1 rfl (Nat.le_of_ble_eq_true rfl) dL_same_173 ⟨by omega, by omega⟩ (fun H locs hH => ?_)
    refine lv_icmp_ne (tgt := 183) hx hb dL_same_176 (by decide) (fun c1 => absurd rfl c1) (fun _ => ?_)
    refine lv_iconst (v := 1) hx hb dL_same_179 (by decide) ?_
    refine lv_goto (tgt := 184) hx hb dL_same_180 (by decide) ?_
    refine lv_istore_n (lv' := [(2, .int 1), (3, .int (nI k)), (0, .ref (ad 150)), (1, .ref (bd 150))]) hx hb dL_same_184 rfl hl (by decide) rfl (fun ls hl => ?_)
    refine lv_iinc (v := nI (k + 1)) (lv' := [(3, .int (nI (k + 1))), (2, .int 1), (0, .ref (ad 150)), (1, .ref (bd 150))]) hx hb dL_same_185 hl (k := 1) rfl (by exact nI_add k 1) (by decide) rfl (fun ls hl => ?_)
    refine lv_goto (tgt := 124) hx hb dL_same_188 (by decide) ?_
    exact ih (k + 1) _ _ H locs ls (by omega) (by omega) (by omega) (by omega) hH (lv_sub hl [0, 2, 3, 1] rfl)
set_option maxRecDepth 100000 in
set_option maxHeartbeats 4000000 in
theorem sm_76 (X : cX D Y p s m args meth c cL_same 5 RL (some .boolean)) (hl0 : l.stackTraces = false) (Z : dZ (cA2 ad bd s.heap.size) ad bd s) (M : SM mu nu) {c9 : Nat} (hc9 : c9 < 8) {C0 C1 : Nat} (kk : ∀ (cells slots : Nat) (H : Heap) (locs : List Loc) (ls : Array Slot), cells + C0 ≤ 1104 → slots + C1 ≤ 6624 → d2 D Y (cA2 ad bd s.heap.size) ad bd mu nu s H locs → lv_has ls 5 [(3, .int (nI c9)), (0, .ref (ad 150)), (1, .ref (bd 150)), (2, .int 1)] → W p l e rm6_same s m args below meth c H locs cells slots (sQ D Y ad bd mu nu below args s) (F0 m 116 ls [])) : ∀ (d k cells slots : Nat) (H : Heap) (locs : List Loc) (ls : Array Slot), 10 - k = d → k ≤ 10 → cells + 6 * d + C0 ≤ 1104 → slots + 36 * d + C1 ≤ 6624 → d2 D Y (cA2 ad bd s.heap.size) ad bd mu nu s H locs → lv_has ls 5 [(4, .int (nI k)), (3, .int (nI c9)), (0, .ref (ad 150)), (1, .ref (bd 150)), (2, .int 1)] → W p l e rm6_same s m args below meth c H locs cells slots (sQ D Y ad bd mu nu below args s) (F0 m 76 ls []) := by
  obtain ⟨⟨hx, hb, hml, hown, hts⟩, hr, hlk, hK⟩ := id X
  obtain ⟨M1, M2, M3, M4⟩ := M
  intro d
  induction d with
  | zero =>
    intro k cells slots H locs ls hd hk hc1 hc2 hH hl
    obtain rfl : k = 10 := by omega
    refine lv_iload hx hb dL_same_76 (lv_at hl 0 rfl) ?_
    refine lv_bipush (v := 10) hx hb dL_same_78 (by decide) ?_
    refine lv_icmp_ge (tgt := 116) hx hb dL_same_80 (by decide) (fun _ => ?_) (fun c1 => absurd (by decide) c1)
    exact kk cells slots H locs ls (by omega) (by omega) hH (lv_sub hl [1, 2, 3, 4] rfl)
  | succ d ih =>
    intro k cells slots H locs ls hd hk hc1 hc2 hH hl
    have n10' : ¬ (10 : Int32) ≤ nI k := by rw [show (10 : Int32) = nI 10 from rfl, n_le (by omega) (by omega)]; omega
    obtain ⟨v0, a0, b0⟩ := M3 c9 k (by omega) (by omega)
    refine lv_iload hx hb dL_same_76 (lv_at hl 0 rfl) ?_
    refine lv_bipush (v := 10) hx hb dL_same_78 (by decide) ?_
    refine lv_icmp_ge (tgt := 116) hx hb dL_same_80 (by decide) (fun c1 => absurd c1 n10') (fun _ => ?_)
    refine lv_iload_n hx hb dL_same_83 rfl (lv_at hl 4 rfl) ?_
    refine lv_if_eq (tgt := 116) hx hb dL_same_84 (by decide) (fun c1 => absurd c1 (by decide)) (fun _ => ?_)
    refine lv_aload_n hx hb dL_same_87 rfl (lv_at hl 2 rfl) ?_
    refine lv_iload_n hx hb dL_same_88 rfl (lv_at hl 1 rfl) ?_
    refine lv_iload hx hb dL_same_89 (lv_at hl 0 rfl) ?_
    refine ko (MC := 1104) (MS := 6624) (As := [.ref (ad 150), .int (nI c9), .int (nI k)]) (rest := []) ⟨rfl, rfl⟩ X Z hH (h6_carOf l Z.2.1.1 hl0 _ (nI c9) (nI k) a0) (vx_cwSW 3 hts qL_134 rfl rfl rfl (by decide +kernel) ⟨Nat.le_of_ble_eq_true rfl, Nat.le_of_ble_eq_true rfl⟩) rfl hl.1 rfl (Nat.le_of_ble_eq_true rfl) dL_same_91 ⟨by omega, by omega⟩ (fun H locs hH => ?_)
    refine lv_aload_n hx hb dL_same_94 rfl (lv_at hl 3 rfl) ?_
    refine lv_iload_n hx hb dL_same_95 rfl (lv_at hl 1 rfl) ?_
    refine lv_iload hx hb dL_same_96 (lv_at hl 0 rfl) ?_
    refine kq (MC := 1104) (MS := 6624) (As := [.ref (bd 150), .int (nI c9), .int (nI k)]) (rest := [.int v0]) ⟨rfl, rfl⟩ X Z hH (h6_carOf l Z.2.1.2.1 hl0 _ (nI c9) (nI k) b0) (vx_cwSW 3 hts qL_134 rfl rfl rfl (by decide +kernel) ⟨Nat.le_of_ble_eq_true rfl, Nat.le_of_ble_eq_true rfl⟩) rfl hl.1 rfl (Nat.le_of_ble_eq_true rfl) dL_same_98 ⟨by omega, by omega⟩ (fun H locs hH => ?_)
    refine lv_icmp_ne (tgt := 108) hx hb dL_same_101 (by decide) (fun c1 => absurd rfl c1) (fun _ => ?_)
    refine lv_iconst (v := 1) hx hb dL_same_104 (by decide) ?_
    refine lv_goto (tgt := 109) hx hb dL_same_105 (by decide) ?_
    refine lv_istore_n (lv' := [(2, .int 1), (4, .int (nI k)), (3, .int (nI c9)), (0, .ref (ad 150)), (1, .ref (bd 150))]) hx hb dL_same_109 rfl hl (by decide) rfl (fun ls hl => ?_)
    refine lv_iinc (v := nI (k + 1)) (lv' := [(4, .int (nI (k + 1))), (2, .int 1), (3, .int (nI c9)), (0, .ref (ad 150)), (1, .ref (bd 150))]) hx hb dL_same_110 hl (k := 1) rfl (by exact nI_add k 1) (by decide) rfl (fun ls hl => ?_)
    refine lv_goto (tgt := 76) hx hb dL_same_113 (by decide) ?_
    exact ih (k + 1) _ _ H locs ls (by omega) (by omega) (by omega) (by omega) hH (lv_sub hl [0, 2, 3, 4, 1] rfl)
set_option maxRecDepth 100000 in
set_option maxHeartbeats 4000000 in
theorem sm_63 (X : cX D Y p s m args meth c cL_same 5 RL (some .boolean)) (hl0 : l.stackTraces = false) (Z : dZ (cA2 ad bd s.heap.size) ad bd s) (M : SM mu nu) : ∀ (d k cells slots : Nat) (H : Heap) (locs : List Loc) (ls : Array Slot), 8 - k = d → k ≤ 8 → cells + 60 * d + 540 ≤ 1104 → slots + 360 * d + 3240 ≤ 6624 → d2 D Y (cA2 ad bd s.heap.size) ad bd mu nu s H locs → lv_has ls 5 [(3, .int (nI k)), (0, .ref (ad 150)), (1, .ref (bd 150)), (2, .int 1)] → W p l e rm6_same s m args below meth c H locs cells slots (sQ D Y ad bd mu nu below args s) (F0 m 63 ls []) := by
  have X0 := X
  have M0 := M
  obtain ⟨⟨hx, hb, hml, hown, hts⟩, hr, hlk, hK⟩ := id X
  obtain ⟨M1, M2, M3, M4⟩ := M
  intro d
  induction d with
  | zero =>
    intro k cells slots H locs ls hd hk hc1 hc2 hH hl
    obtain rfl : k = 8 := by omega
    refine lv_iload_n hx hb dL_same_63 rfl (lv_at hl 0 rfl) ?_
    refine lv_bipush (v := 8) hx hb dL_same_64 (by decide) ?_
    refine lv_icmp_ge (tgt := 122) hx hb dL_same_66 (by decide) (fun _ => ?_) (fun c1 => absurd (by decide) c1)
    refine lv_iconst (v := 0) hx hb dL_same_122 (by decide) ?_
    refine lv_istore_n (lv' := [(3, .int (nI 0)), (0, .ref (ad 150)), (1, .ref (bd 150)), (2, .int 1)]) hx hb dL_same_123 rfl hl (by decide) rfl (fun ls hl => ?_)
    exact sm_124 X0 hl0 Z M0 30 0 cells slots H locs ls rfl (by omega) (by omega) (by omega) hH hl
  | succ d ih =>
    intro k cells slots H locs ls hd hk hc1 hc2 hH hl
    have n8 : ¬ (8 : Int32) ≤ nI k := by rw [show (8 : Int32) = nI 8 from rfl, n_le (by omega) (by omega)]; omega
    refine lv_iload_n hx hb dL_same_63 rfl (lv_at hl 0 rfl) ?_
    refine lv_bipush (v := 8) hx hb dL_same_64 (by decide) ?_
    refine lv_icmp_ge (tgt := 122) hx hb dL_same_66 (by decide) (fun c1 => absurd c1 n8) (fun _ => ?_)
    refine lv_iload_n hx hb dL_same_69 rfl (lv_at hl 3 rfl) ?_
    refine lv_if_eq (tgt := 122) hx hb dL_same_70 (by decide) (fun c1 => absurd c1 (by decide)) (fun _ => ?_)
    refine lv_iconst (v := 0) hx hb dL_same_73 (by decide) ?_
    refine lv_istore (lv' := [(4, .int (nI 0)), (3, .int (nI k)), (0, .ref (ad 150)), (1, .ref (bd 150)), (2, .int 1)]) hx hb dL_same_74 hl (by decide) rfl (fun ls hl => ?_)
    refine sm_76 X0 hl0 Z M0 (c9 := k) (by omega) (C0 := 60 * d + 540) (C1 := 360 * d + 3240) (fun cells slots H locs ls h1 h2 hH hl => ?_) 10 0 cells slots H locs ls rfl (by omega) (by omega) (by omega) hH hl
    refine lv_iinc (v := nI (k + 1)) (lv' := [(3, .int (nI (k + 1))), (0, .ref (ad 150)), (1, .ref (bd 150)), (2, .int 1)]) hx hb dL_same_116 hl (k := 0) rfl (by exact nI_add k 1) (by decide) rfl (fun ls hl => ?_)
    refine lv_goto (tgt := 63) hx hb dL_same_119 (by decide) ?_
    exact ih (k + 1) cells slots H locs ls (by omega) (by omega) (by omega) (by omega) hH hl
set_option maxRecDepth 100000 in
set_option maxHeartbeats 4000000 in
theorem sm_20 (X : cX D Y p s m args meth c cL_same 5 RL (some .boolean)) (hl0 : l.stackTraces = false) (Z : dZ (cA2 ad bd s.heap.size) ad bd s) (M : SM mu nu) : ∀ (d k cells slots : Nat) (H : Heap) (locs : List Loc) (ls : Array Slot), 14 - k = d → k ≤ 14 → cells + 6 * d + 1020 ≤ 1104 → slots + 36 * d + 6120 ≤ 6624 → d2 D Y (cA2 ad bd s.heap.size) ad bd mu nu s H locs → lv_has ls 5 [(3, .int (nI k)), (2, .int 1), (0, .ref (ad 150)), (1, .ref (bd 150))] → W p l e rm6_same s m args below meth c H locs cells slots (sQ D Y ad bd mu nu below args s) (F0 m 20 ls []) := by
  have X0 := X
  have M0 := M
  obtain ⟨⟨hx, hb, hml, hown, hts⟩, hr, hlk, hK⟩ := id X
  obtain ⟨M1, M2, M3, M4⟩ := M
  intro d
  induction d with
  | zero =>
    intro k cells slots H locs ls hd hk hc1 hc2 hH hl
    obtain rfl : k = 14 := by omega
    refine lv_iload_n hx hb dL_same_20 rfl (lv_at hl 0 rfl) ?_
    refine lv_bipush (v := 14) hx hb dL_same_21 (by decide) ?_
    refine lv_icmp_ge (tgt := 61) hx hb dL_same_23 (by decide) (fun _ => ?_) (fun c1 => absurd (by decide) c1)
    refine lv_iconst (v := 0) hx hb dL_same_61 (by decide) ?_
    refine lv_istore_n (lv' := [(3, .int (nI 0)), (2, .int 1), (0, .ref (ad 150)), (1, .ref (bd 150))]) hx hb dL_same_62 rfl hl (by decide) rfl (fun ls hl => ?_)
    exact sm_63 X0 hl0 Z M0 8 0 cells slots H locs ls rfl (by omega) (by omega) (by omega) hH (lv_sub hl [0, 2, 3, 1] rfl)
  | succ d ih =>
    intro k cells slots H locs ls hd hk hc1 hc2 hH hl
    have n14 : ¬ (14 : Int32) ≤ nI k := by rw [show (14 : Int32) = nI 14 from rfl, n_le (by omega) (by omega)]; omega
    -- the end of a turn
    have fin9 : ∀ (cells2 slots2 : Nat) (H : Heap) (locs : List Loc), cells2 + 6 * d + 1020 ≤ 1104 → slots2 + 36 * d + 6120 ≤ 6624 → d2 D Y (cA2 ad bd s.heap.size) ad bd mu nu s H locs → W p l e rm6_same s m args below meth c H locs cells2 slots2 (sQ D Y ad bd mu nu below args s) (F0 m 49 ls []) := fun cells2 slots2 H locs h1 h2 hH => by
      refine lv_iconst (v := 1) hx hb dL_same_49 (by decide) ?_
      refine lv_goto (tgt := 54) hx hb dL_same_50 (by decide) ?_
      refine lv_istore_n (lv' := [(2, .int 1), (3, .int (nI k)), (0, .ref (ad 150)), (1, .ref (bd 150))]) hx hb dL_same_54 rfl hl (by decide) rfl (fun ls hl => ?_)
      refine lv_iinc (v := nI (k + 1)) (lv' := [(3, .int (nI (k + 1))), (2, .int 1), (0, .ref (ad 150)), (1, .ref (bd 150))]) hx hb dL_same_55 hl (k := 1) rfl (by exact nI_add k 1) (by decide) rfl (fun ls hl => ?_)
      refine lv_goto (tgt := 20) hx hb dL_same_58 (by decide) ?_
      exact ih (k + 1) cells2 slots2 H locs ls (by omega) (by omega) (by omega) (by omega) hH hl
    refine lv_iload_n hx hb dL_same_20 rfl (lv_at hl 0 rfl) ?_
    refine lv_bipush (v := 14) hx hb dL_same_21 (by decide) ?_
    refine lv_icmp_ge (tgt := 61) hx hb dL_same_23 (by decide) (fun c1 => absurd c1 n14) (fun _ => ?_)
    refine lv_iload_n hx hb dL_same_26 rfl (lv_at hl 1 rfl) ?_
    refine lv_if_eq (tgt := 61) hx hb dL_same_27 (by decide) (fun c1 => absurd c1 (by decide)) (fun _ => ?_)
    refine lv_iload_n hx hb dL_same_30 rfl (lv_at hl 0 rfl) ?_
    refine lv_bipush (v := 10) hx hb dL_same_31 (by decide) ?_
    refine lv_icmp_eq (tgt := 49) hx hb dL_same_33 (by decide) (fun c1 => ?_) (fun c1 => ?_)
    · exact fin9 cells slots H locs (by omega) (by omega) hH
    · have h10 : k ≠ 10 := fun q => c1 (by rw [q]; rfl)
      obtain ⟨v0, a0, b0⟩ := M2 k (by omega) h10
      refine lv_aload_n hx hb dL_same_36 rfl (lv_at hl 2 rfl) ?_
      refine lv_iload_n hx hb dL_same_37 rfl (lv_at hl 0 rfl) ?_
      refine ko (MC := 1104) (MS := 6624) (As := [.ref (ad 150), .int (nI k)]) (rest := []) ⟨rfl, rfl⟩ X Z hH (h6_count l Z.2.1.1 hl0 _ (nI k) a0) (vx_cwSW 2 hts qL_91 rfl rfl rfl (by decide +kernel) ⟨Nat.le_of_ble_eq_true rfl, Nat.le_of_ble_eq_true rfl⟩) rfl hl.1 rfl (Nat.le_of_ble_eq_true rfl) dL_same_38 ⟨by omega, by omega⟩ (fun H locs hH => ?_)
      refine lv_aload_n hx hb dL_same_41 rfl (lv_at hl 3 rfl) ?_
      refine lv_iload_n hx hb dL_same_42 rfl (lv_at hl 0 rfl) ?_
      refine kq (MC := 1104) (MS := 6624) (As := [.ref (bd 150), .int (nI k)]) (rest := [.int v0]) ⟨rfl, rfl⟩ X Z hH (h6_count l Z.2.1.2.1 hl0 _ (nI k) b0) (vx_cwSW 2 hts qL_91 rfl rfl rfl (by decide +kernel) ⟨Nat.le_of_ble_eq_true rfl, Nat.le_of_ble_eq_true rfl⟩) rfl hl.1 rfl (Nat.le_of_ble_eq_true rfl) dL_same_43 ⟨by omega, by omega⟩ (fun H locs hH => ?_)
      refine lv_icmp_ne (tgt := 53) hx hb dL_same_46 (by decide) (fun c1 => absurd rfl c1) (fun _ => ?_)
      exact fin9 _ _ H locs (by omega) (by omega) hH
set_option maxRecDepth 100000 in
set_option maxHeartbeats 4000000 in
theorem c6_same (l : Launch) {D : va_G} {Y : cYt} {ad bd : Nat → Nat} {mu nu : Nat → Nat → Int32} (hI : cInj ad) (hI2 : cInj bd) (hdis : ∀ i j, i < 157 → j < 157 → ad i ≠ bd j) (hl0 : l.stackTraces = false) (M : SM mu nu) (sz : Nat) : Met l yL_same uL_same rm6_same (va_Pc [.ref (ad 150), .ref (bd 150)] (fun U => U.heap.size = sz ∧ (zx (cA2 ad bd sz) U ∧ zn U) ∧ cB D Y ad mu U ∧ va_P D vwCl (cwW Y bd nu) U.heap)) (va_Qi (fun (r9 : Int32) (_ : Unit) => r9 = 1) (fun _ t9 => cB D Y ad mu t9 ∧ va_P D vwCl (cwW Y bd nu) t9.heap) (cA2 ad bd sz)) 1104 6624 (cA2 ad bd sz) := by
  refine Met.ofW (cc := cL_same) (maxL := 5) (ret := (some .boolean)) (by decide) rfl ?_
  intro p e s m args below meth c s₁ B hml hv
  obtain ⟨rfl, hsz, hz, ⟨hP, hK⟩, hQ⟩ := hv
  subst hsz
  have X : cX D Y p s m ([.ref (ad 150), .ref (bd 150)] : List Value).toArray meth c cL_same 5 RL (some .boolean) := ⟨⟨B.exec, B.bytes, hml, findClass_of_methodNamed B.named, fun w h => atoms_spec (ws := uL_same) B.pre w (List.mem_cons_of_mem _ h)⟩, B.returns, B.notSynchronized, hK⟩
  have Z : dZ (cA2 ad bd s.heap.size) ad bd s := ⟨hz, ⟨hI, hI2, hdis⟩, fun q hq => Or.inl (Or.inr hq), fun i hi => Or.inl (Or.inl ⟨i, hi, rfl⟩), fun i hi => Or.inr ⟨i, hi, rfl⟩⟩
  obtain ⟨⟨hx, hb, hml, hown, hts⟩, hr, hlk, hK⟩ := id X
  obtain ⟨⟨r, m1, m2, m3⟩, -⟩ := id M
  have hl := lv_entry ([.ref (ad 150), .ref (bd 150)]) (n := 5) (Nat.le_of_ble_eq_true rfl)
  rw [lg_entry_eq]
  generalize (lg_sl ([.ref (ad 150), .ref (bd 150)]) ++ List.replicate (5 - (lg_sl ([.ref (ad 150), .ref (bd 150)])).length) Slot.unset).toArray = ls at hl ⊢
  have hl : lv_has ls 5 [(0, .ref (ad 150)), (1, .ref (bd 150))] := hl
  have hH : d2 D Y (cA2 ad bd s.heap.size) ad bd mu nu s s.heap [] := ⟨hP, hQ, va_S.rf⟩
  refine lv_aload_n hx hb dL_same_0 rfl (lv_at hl 0 rfl) ?_
  refine km6 X hP (c4_meanSpeed l m1) (cwV 0 hts qL_143 rfl rfl rfl (by decide +kernel) ⟨Nat.le_of_ble_eq_true rfl, Nat.le_of_ble_eq_true rfl⟩) hl.1 rfl (Nat.le_of_ble_eq_true rfl) dL_same_1 ⟨Nat.zero_le _, Nat.zero_le _⟩ ?_
  refine lv_aload_n hx hb dL_same_4 rfl (lv_at hl 1 rfl) ?_
  refine km6 X hQ (c4_meanSpeed l m2) (cwV 0 hts qL_143 rfl rfl rfl (by decide +kernel) ⟨Nat.le_of_ble_eq_true rfl, Nat.le_of_ble_eq_true rfl⟩) hl.1 rfl (Nat.le_of_ble_eq_true rfl) dL_same_5 ⟨Nat.zero_le _, Nat.zero_le _⟩ ?_
  refine lv_fcmp hx hb dL_same_8 ?_
  rw [m3]
  refine lv_if_ne (tgt := 16) hx hb dL_same_9 (by decide) (fun c1 => absurd rfl c1) (fun _ => ?_)
  refine lv_iconst (v := 1) hx hb dL_same_12 (by decide) ?_
  refine lv_goto (tgt := 17) hx hb dL_same_13 (by decide) ?_
  refine lv_istore_n (lv' := [(2, .int 1), (0, .ref (ad 150)), (1, .ref (bd 150))]) hx hb dL_same_17 rfl hl (by decide) rfl (fun ls hl => ?_)
  refine lv_iconst (v := 0) hx hb dL_same_18 (by decide) ?_
  refine lv_istore_n (lv' := [(3, .int (nI 0)), (2, .int 1), (0, .ref (ad 150)), (1, .ref (bd 150))]) hx hb dL_same_19 rfl hl (by decide) rfl (fun ls hl => ?_)
  exact sm_20 X hl0 Z M 14 0 0 0 s.heap [] ls rfl (by omega) (by omega) (by omega) hH hl
end Same
