/-! p29: the law's own walk -/
def lA (s : State) : Nat → Prop := fun q => s.heap.size ≤ q
theorem ring2 (a b c : Int32) : (a - b) + (c - a) = c - b := by
  simp only [Int32.sub_eq_add_neg]
  rw [show a + -b + (c + -a) = (a + -a) + (c + -b) by ac_rfl, show a + -a = 0 from Int32.add_right_neg a, Int32.zero_add]
def nxN1 (n : Nat) : Nat := if n = 6 then 6 else n + 1
theorem nx_mono {n k : Nat} (hn : n ≤ 6) (h : nxN1 n ≤ k) (hk : k ≤ 6) : nxN1 n ≤ nxN1 k := by
  unfold nxN1 at h ⊢
  by_cases a : n = 6 <;> by_cases b : k = 6 <;> simp only [a, b, if_true, if_false] at h ⊢ <;> omega
section Law
variable {p : Program} {l : Launch} {e : Env} {s : State} {m : MethodId} {below : List Frame} {meth : Method} {c : Code} {D : va_G} {Y : cYt} {ad bd : Nat → Nat} {b L : Nat} {xs : Nat → Int32}
set_option maxRecDepth 100000 in
set_option maxHeartbeats 8000000 in
theorem law_235 (X : cX D Y p s m #[Value.ref b] meth c cL_law 8 RL ret) (hl0 : l.stackTraces = false) (Z : dZ (lA s) ad bd s) {mu nu : Nat → Nat → Int32} {So Sq : Stt} {w9 : Vc} {B : Int} (hAo : AS mu So) (hAq : AS nu Sq) (ew : So.1 = w9) (ew2 : Sq.1 = w9) (hJo : JS B So) (hJq : JS B Sq) (hB : B ≤ 800000000) (h9 : Sq.2.2.1 ≤ So.2.2.1)
    {cells slots : Nat} {H : Heap} {locs : List Loc} {ls : Array Slot} (hc : cells + 2000 ≤ 676661 ∧ slots + 12000 ≤ 7071484) (hH : d2 D Y (lA s) ad bd mu nu s H locs) (hl : lv_has ls 8 [(0, .ref b), (1, .ref (ad 150)), (2, .ref (bd 150)), (3, .int 1)]) : W p l e room_1 s m #[Value.ref b] below meth c H locs cells slots (lw_Z below #[Value.ref b] s) (F0 m 235 ls []) := by
  obtain ⟨⟨hx, hb, hml, hown, hts⟩, hr, hlk, hK⟩ := id X
  obtain ⟨N, hN⟩ := hJo.1
  have hN8 := hN.2.1
  have hw := hN.2.2.1
  have hw2 : Sq.1 162 = nI N := by rw [ew2, ← ew]; exact hw
  have l6 := hAo.2.2.2.1
  have l62 := hAq.2.2.2.1
  have o9 : f6_count_0 mu 9 = some (nI So.2.2.1) := cn_s (j := 9) hAo hN8 hw (by omega) (by omega)
  have q9 : f6_count_0 nu 9 = some (nI Sq.2.2.1) := cn_s (j := 9) hAq hN8 hw2 (by omega) (by omega)
  have on0 : f6_count_0 mu 0 = some (w9 163) := by rw [← ew]; exact cn_s (j := 0) hAo hN8 hw (by omega) (by omega)
  have qn0 : f6_count_0 nu 0 = some (w9 163) := by rw [← ew2]; exact cn_s (j := 0) hAq hN8 hw2 (by omega) (by omega)
  have on4 : f6_count_0 mu 4 = some (w9 165) := by rw [← ew]; exact cn_s (j := 4) hAo hN8 hw (by omega) (by omega)
  have qn4 : f6_count_0 nu 4 = some (w9 165) := by rw [← ew2]; exact cn_s (j := 4) hAq hN8 hw2 (by omega) (by omega)
  have on5 : f6_count_0 mu 5 = some (w9 166) := by rw [← ew]; exact cn_s (j := 5) hAo hN8 hw (by omega) (by omega)
  have qn5 : f6_count_0 nu 5 = some (w9 166) := by rw [← ew2]; exact cn_s (j := 5) hAq hN8 hw2 (by omega) (by omega)
  have oa1 : f6_cars_0 mu 1 = some (mkN (isSt w9 1) N) := by rw [← ew]; exact ca_s (j := 1) hAo hN8 hw (by omega)
  have qa1 : f6_cars_0 nu 1 = some (mkN (isSt w9 1) N) := by rw [← ew2]; exact ca_s (j := 1) hAq hN8 hw2 (by omega)
  have oa3 : f6_cars_0 mu 3 = some (mkN (isSt w9 3) N) := by rw [← ew]; exact ca_s (j := 3) hAo hN8 hw (by omega)
  have qa3 : f6_cars_0 nu 3 = some (mkN (isSt w9 3) N) := by rw [← ew2]; exact ca_s (j := 3) hAq hN8 hw2 (by omega)
  obtain ⟨mu', oh, -⟩ := g_hangs hAo hJo hB
  obtain ⟨nu', qh, -⟩ := g_hangs hAq hJq hB
  refine lv_aload_n hx hb dL_law_235 rfl (lv_at hl 1 rfl) ?_
  refine lv_bipush (v := 9) hx hb dL_law_236 (by decide) ?_
  refine ko (MC := 676661) (MS := 7071484) (As := [.ref (ad 150), .int 9]) (rest := []) ⟨rfl, rfl⟩ X Z hH (h6_count l Z.2.1.1 hl0 _ 9 o9) (vx_cwSW 2 hts qL_91 rfl rfl rfl (by decide +kernel) ⟨Nat.le_of_ble_eq_true rfl, Nat.le_of_ble_eq_true rfl⟩) rfl hl.1 rfl (Nat.le_of_ble_eq_true rfl) dL_law_238 ⟨by omega, by omega⟩ (fun H locs hH => ?_)
  refine lv_istore (lv' := [(6, .int (nI So.2.2.1)), (0, .ref b), (1, .ref (ad 150)), (2, .ref (bd 150)), (3, .int 1)]) hx hb dL_law_241 hl (by decide) rfl (fun ls hl => ?_)
  refine lv_aload_n hx hb dL_law_243 rfl (lv_at hl 3 rfl) ?_
  refine lv_bipush (v := 9) hx hb dL_law_244 (by decide) ?_
  refine kq (MC := 676661) (MS := 7071484) (As := [.ref (bd 150), .int 9]) (rest := []) ⟨rfl, rfl⟩ X Z hH (h6_count l Z.2.1.2.1 hl0 _ 9 q9) (vx_cwSW 2 hts qL_91 rfl rfl rfl (by decide +kernel) ⟨Nat.le_of_ble_eq_true rfl, Nat.le_of_ble_eq_true rfl⟩) rfl hl.1 rfl (Nat.le_of_ble_eq_true rfl) dL_law_246 ⟨by omega, by omega⟩ (fun H locs hH => ?_)
  refine lv_istore (lv' := [(7, .int (nI Sq.2.2.1)), (6, .int (nI So.2.2.1)), (0, .ref b), (1, .ref (ad 150)), (2, .ref (bd 150)), (3, .int 1)]) hx hb dL_law_249 hl (by decide) rfl (fun ls hl => ?_)
  refine lv_iload_n hx hb dL_law_251 rfl (lv_at hl 5 rfl) ?_
  refine lv_if_eq (tgt := 345) hx hb dL_law_252 (by decide) (fun c1 => absurd c1 (by decide)) (fun _ => ?_)
  refine lv_iload hx hb dL_law_255 (lv_at hl 1 rfl) ?_
  refine lv_iload hx hb dL_law_257 (lv_at hl 0 rfl) ?_
  refine lv_icmp_lt (tgt := 345) hx hb dL_law_259 (by decide) (fun c1 => absurd ((n_lt (by omega) (by omega)).mp c1) (by omega)) (fun _ => ?_)
  refine lv_aload_n hx hb dL_law_262 rfl (lv_at hl 3 rfl) ?_
  refine lv_iconst (v := 0) hx hb dL_law_263 (by decide) ?_
  refine ko (MC := 676661) (MS := 7071484) (As := [.ref (ad 150), .int 0]) (rest := []) ⟨rfl, rfl⟩ X Z hH (h6_count l Z.2.1.1 hl0 _ 0 on0) (vx_cwSW 2 hts qL_91 rfl rfl rfl (by decide +kernel) ⟨Nat.le_of_ble_eq_true rfl, Nat.le_of_ble_eq_true rfl⟩) rfl hl.1 rfl (Nat.le_of_ble_eq_true rfl) dL_law_264 ⟨by omega, by omega⟩ (fun H locs hH => ?_)
  refine lv_aload_n hx hb dL_law_267 rfl (lv_at hl 4 rfl) ?_
  refine lv_iconst (v := 0) hx hb dL_law_268 (by decide) ?_
  refine kq (MC := 676661) (MS := 7071484) (As := [.ref (bd 150), .int 0]) (rest := [.int (w9 163)]) ⟨rfl, rfl⟩ X Z hH (h6_count l Z.2.1.2.1 hl0 _ 0 qn0) (vx_cwSW 2 hts qL_91 rfl rfl rfl (by decide +kernel) ⟨Nat.le_of_ble_eq_true rfl, Nat.le_of_ble_eq_true rfl⟩) rfl hl.1 rfl (Nat.le_of_ble_eq_true rfl) dL_law_269 ⟨by omega, by omega⟩ (fun H locs hH => ?_)
  refine lv_icmp_ne (tgt := 345) hx hb dL_law_272 (by decide) (fun c1 => absurd rfl c1) (fun _ => ?_)
  refine lv_aload_n hx hb dL_law_275 rfl (lv_at hl 3 rfl) ?_
  refine lv_iconst (v := 1) hx hb dL_law_276 (by decide) ?_
  refine ko (MC := 676661) (MS := 7071484) (As := [.ref (ad 150), .int 1]) (rest := []) ⟨rfl, rfl⟩ X Z hH (h6_cars l Z.2.1.1 hl0 _ 1 oa1) (vx_cwSW 2 hts qL_132 rfl rfl rfl (by decide +kernel) ⟨Nat.le_of_ble_eq_true rfl, Nat.le_of_ble_eq_true rfl⟩) rfl hl.1 rfl (Nat.le_of_ble_eq_true rfl) dL_law_277 ⟨by omega, by omega⟩ (fun H locs hH => ?_)
  refine lv_aload_n hx hb dL_law_280 rfl (lv_at hl 4 rfl) ?_
  refine lv_iconst (v := 1) hx hb dL_law_281 (by decide) ?_
  refine kq (MC := 676661) (MS := 7071484) (As := [.ref (bd 150), .int 1]) (rest := [.int (mkN (isSt w9 1) N)]) ⟨rfl, rfl⟩ X Z hH (h6_cars l Z.2.1.2.1 hl0 _ 1 qa1) (vx_cwSW 2 hts qL_132 rfl rfl rfl (by decide +kernel) ⟨Nat.le_of_ble_eq_true rfl, Nat.le_of_ble_eq_true rfl⟩) rfl hl.1 rfl (Nat.le_of_ble_eq_true rfl) dL_law_282 ⟨by omega, by omega⟩ (fun H locs hH => ?_)
  refine lv_icmp_ne (tgt := 345) hx hb dL_law_285 (by decide) (fun c1 => absurd rfl c1) (fun _ => ?_)
  refine lv_aload_n hx hb dL_law_288 rfl (lv_at hl 3 rfl) ?_
  refine lv_iconst (v := 3) hx hb dL_law_289 (by decide) ?_
  refine ko (MC := 676661) (MS := 7071484) (As := [.ref (ad 150), .int 3]) (rest := []) ⟨rfl, rfl⟩ X Z hH (h6_cars l Z.2.1.1 hl0 _ 3 oa3) (vx_cwSW 2 hts qL_132 rfl rfl rfl (by decide +kernel) ⟨Nat.le_of_ble_eq_true rfl, Nat.le_of_ble_eq_true rfl⟩) rfl hl.1 rfl (Nat.le_of_ble_eq_true rfl) dL_law_290 ⟨by omega, by omega⟩ (fun H locs hH => ?_)
  refine lv_aload_n hx hb dL_law_293 rfl (lv_at hl 4 rfl) ?_
  refine lv_iconst (v := 3) hx hb dL_law_294 (by decide) ?_
  refine kq (MC := 676661) (MS := 7071484) (As := [.ref (bd 150), .int 3]) (rest := [.int (mkN (isSt w9 3) N)]) ⟨rfl, rfl⟩ X Z hH (h6_cars l Z.2.1.2.1 hl0 _ 3 qa3) (vx_cwSW 2 hts qL_132 rfl rfl rfl (by decide +kernel) ⟨Nat.le_of_ble_eq_true rfl, Nat.le_of_ble_eq_true rfl⟩) rfl hl.1 rfl (Nat.le_of_ble_eq_true rfl) dL_law_295 ⟨by omega, by omega⟩ (fun H locs hH => ?_)
  refine lv_icmp_ne (tgt := 345) hx hb dL_law_298 (by decide) (fun c1 => absurd rfl c1) (fun _ => ?_)
  refine lv_aload_n hx hb dL_law_301 rfl (lv_at hl 3 rfl) ?_
  refine lv_iconst (v := 4) hx hb dL_law_302 (by decide) ?_
  refine ko (MC := 676661) (MS := 7071484) (As := [.ref (ad 150), .int 4]) (rest := []) ⟨rfl, rfl⟩ X Z hH (h6_count l Z.2.1.1 hl0 _ 4 on4) (vx_cwSW 2 hts qL_91 rfl rfl rfl (by decide +kernel) ⟨Nat.le_of_ble_eq_true rfl, Nat.le_of_ble_eq_true rfl⟩) rfl hl.1 rfl (Nat.le_of_ble_eq_true rfl) dL_law_303 ⟨by omega, by omega⟩ (fun H locs hH => ?_)
  refine lv_aload_n hx hb dL_law_306 rfl (lv_at hl 4 rfl) ?_
  refine lv_iconst (v := 4) hx hb dL_law_307 (by decide) ?_
  refine kq (MC := 676661) (MS := 7071484) (As := [.ref (bd 150), .int 4]) (rest := [.int (w9 165)]) ⟨rfl, rfl⟩ X Z hH (h6_count l Z.2.1.2.1 hl0 _ 4 qn4) (vx_cwSW 2 hts qL_91 rfl rfl rfl (by decide +kernel) ⟨Nat.le_of_ble_eq_true rfl, Nat.le_of_ble_eq_true rfl⟩) rfl hl.1 rfl (Nat.le_of_ble_eq_true rfl) dL_law_308 ⟨by omega, by omega⟩ (fun H locs hH => ?_)
  refine lv_icmp_ne (tgt := 345) hx hb dL_law_311 (by decide) (fun c1 => absurd rfl c1) (fun _ => ?_)
  refine lv_aload_n hx hb dL_law_314 rfl (lv_at hl 3 rfl) ?_
  refine lv_iconst (v := 5) hx hb dL_law_315 (by decide) ?_
  refine ko (MC := 676661) (MS := 7071484) (As := [.ref (ad 150), .int 5]) (rest := []) ⟨rfl, rfl⟩ X Z hH (h6_count l Z.2.1.1 hl0 _ 5 on5) (vx_cwSW 2 hts qL_91 rfl rfl rfl (by decide +kernel) ⟨Nat.le_of_ble_eq_true rfl, Nat.le_of_ble_eq_true rfl⟩) rfl hl.1 rfl (Nat.le_of_ble_eq_true rfl) dL_law_316 ⟨by omega, by omega⟩ (fun H locs hH => ?_)
  refine lv_aload_n hx hb dL_law_319 rfl (lv_at hl 4 rfl) ?_
  refine lv_iconst (v := 5) hx hb dL_law_320 (by decide) ?_
  refine kq (MC := 676661) (MS := 7071484) (As := [.ref (bd 150), .int 5]) (rest := [.int (w9 166)]) ⟨rfl, rfl⟩ X Z hH (h6_count l Z.2.1.2.1 hl0 _ 5 qn5) (vx_cwSW 2 hts qL_91 rfl rfl rfl (by decide +kernel) ⟨Nat.le_of_ble_eq_true rfl, Nat.le_of_ble_eq_true rfl⟩) rfl hl.1 rfl (Nat.le_of_ble_eq_true rfl) dL_law_321 ⟨by omega, by omega⟩ (fun H locs hH => ?_)
  refine lv_icmp_ne (tgt := 345) hx hb dL_law_324 (by decide) (fun c1 => absurd rfl c1) (fun _ => ?_)
  refine lv_aload_n hx hb dL_law_327 rfl (lv_at hl 3 rfl) ?_
  refine kbo (MC := 676661) (MS := 7071484) (As := [.ref (ad 150)]) (rest := []) ⟨rfl, rfl⟩ X Z hH (c6_hangs l Z.2.1.1 hl0 _ oh) (va_cwS 1 hts qL_155 rfl rfl rfl (by decide +kernel) ⟨Nat.le_of_ble_eq_true rfl, Nat.le_of_ble_eq_true rfl⟩) rfl hl.1 rfl (Nat.le_of_ble_eq_true rfl) dL_law_328 ⟨by omega, by omega⟩ (fun H locs hH => ?_)
  refine lv_if_eq (tgt := 345) hx hb dL_law_331 (by decide) (fun c1 => absurd (show (1 : Int32) = 0 from c1) (by decide)) (fun _ => ?_)
  refine lv_aload_n hx hb dL_law_334 rfl (lv_at hl 4 rfl) ?_
  refine kbq (MC := 676661) (MS := 7071484) (As := [.ref (bd 150)]) (rest := []) ⟨rfl, rfl⟩ X Z hH (c6_hangs l Z.2.1.2.1 hl0 _ qh) (va_cwS 1 hts qL_155 rfl rfl rfl (by decide +kernel) ⟨Nat.le_of_ble_eq_true rfl, Nat.le_of_ble_eq_true rfl⟩) rfl hl.1 rfl (Nat.le_of_ble_eq_true rfl) dL_law_335 ⟨by omega, by omega⟩ (fun H locs hH => ?_)
  refine lv_if_eq (tgt := 345) hx hb dL_law_338 (by decide) (fun c1 => absurd (show (1 : Int32) = 0 from c1) (by decide)) (fun _ => ?_)
  refine lv_iconst (v := 1) hx hb dL_law_341 (by decide) ?_
  refine lv_goto (tgt := 346) hx hb dL_law_342 (by decide) ?_
  refine va_forget (fun q hq => hH.2.2.2.2 q hq) ?_
  refine W.widen (k := 676661) (n := 7071484) (by omega) (by omega) ?_
  exact lw_ret (d0 := s.drawn) (Drawn.sameBut.refl s.drawn lw_cs) hx hb hr hlk dL_law_346
set_option maxRecDepth 100000 in
set_option maxHeartbeats 8000000 in
theorem law_214 (X : cX D Y p s m #[Value.ref b] meth c cL_law 8 RL ret) (hl0 : l.stackTraces = false) (Z : dZ (lA s) ad bd s) {mu nu : Nat → Nat → Int32} {So S : Stt} {M : Nat} {B : Int} (hAo : AS mu So) (hAq : AS nu S) (hM : 2 ≤ M) (hM2 : M ≤ 51) (ew : So.1 = tkT M S.1) (hJo : JS (B + 200 * (M : Int)) So) (hJq : JS B S) (hB : B ≤ 700000000) (h9 : nxN1 S.2.2.1 ≤ So.2.2.1) {br : Int32} (hbr : br = tkT M S.1 165 - S.1 165)
    {cells slots : Nat} {H : Heap} {locs : List Loc} {ls : Array Slot} (hc : cells + 2003 ≤ 676661 ∧ slots + 12018 ≤ 7071484) (hH : d2 D Y (lA s) ad bd mu nu s H locs) (hl : lv_has ls 8 [(5, .int br), (4, .int (nI M)), (0, .ref b), (1, .ref (ad 150)), (2, .ref (bd 150)), (3, .int 1)]) : W p l e room_1 s m #[Value.ref b] below meth c H locs cells slots (lw_Z below #[Value.ref b] s) (F0 m 214 ls []) := by
  have X0 := X
  obtain ⟨⟨hx, hb, hml, hown, hts⟩, hr, hlk, hK⟩ := id X
  obtain ⟨j1, j2⟩ := r_run hJq (T := M) (by omega) (by omega) (by omega)
  obtain ⟨nu', e1, A1⟩ := j2 nu hAq
  rw [← hbr] at e1
  refine lv_iload_n hx hb dL_law_214 rfl (lv_at hl 5 rfl) ?_
  refine lv_if_eq (tgt := 233) hx hb dL_law_215 (by decide) (fun c1 => absurd c1 (by decide)) (fun _ => ?_)
  refine lv_aload_n hx hb dL_law_218 rfl (lv_at hl 4 rfl) ?_
  refine lv_iload hx hb dL_law_219 (lv_at hl 1 rfl) ?_
  refine kq (MC := 676661) (MS := 7071484) (As := [.ref (bd 150), .int (nI M)]) (rest := []) ⟨rfl, rfl⟩ X Z hH (h6_run l Z.2.1.2.1 hl0 _ (nI M) e1) (vx_cwSW 2 hts qL_130 rfl rfl rfl (by decide +kernel) ⟨Nat.le_of_ble_eq_true rfl, Nat.le_of_ble_eq_true rfl⟩) rfl hl.1 rfl (Nat.le_of_ble_eq_true rfl) dL_law_221 ⟨by omega, by omega⟩ (fun H locs hH => ?_)
  refine lv_iload hx hb dL_law_224 (lv_at hl 0 rfl) ?_
  refine lv_icmp_ne (tgt := 233) hx hb dL_law_226 (by decide) (fun c1 => absurd rfl c1) (fun _ => ?_)
  refine lv_iconst (v := 1) hx hb dL_law_229 (by decide) ?_
  refine lv_goto (tgt := 234) hx hb dL_law_230 (by decide) ?_
  refine lv_istore_n (lv' := [(3, .int 1), (5, .int br), (4, .int (nI M)), (0, .ref b), (1, .ref (ad 150)), (2, .ref (bd 150))]) hx hb dL_law_234 rfl hl (by decide) rfl (fun ls hl => ?_)
  exact law_235 X0 hl0 Z hAo A1 (w9 := tkT M S.1) ew rfl hJo j1 (by omega) h9 ⟨by omega, by omega⟩ hH (lv_sub hl [3, 4, 5, 0] rfl)
set_option maxRecDepth 100000 in
set_option maxHeartbeats 8000000 in
theorem law_187 (X : cX D Y p s m #[Value.ref b] meth c cL_law 8 RL ret) (hl0 : l.stackTraces = false) (Z : dZ (lA s) ad bd s) {nu : Nat → Nat → Int32} {S : Stt} {M : Nat} {B : Int} (hAq : AS nu S) (hM : 2 ≤ M) (hM2 : M ≤ 51) (hJq : JS B S) (hB : B ≤ 700000000) :
    ∀ (d i cells slots : Nat) (mu : Nat → Nat → Int32) (So : Stt) (br : Int32) (H : Heap) (locs : List Loc) (ls : Array Slot), M - i = d → i ≤ M → cells + 3 * d + 2003 ≤ 676661 → slots + 18 * d + 12018 ≤ 7071484 → AS mu So → So.1 = tkT i S.1 → JS (B + 200 * (i : Int)) So → (i = 0 → So.2.2.1 = S.2.2.1) → (1 ≤ i → nxN1 S.2.2.1 ≤ So.2.2.1) → br = tkT i S.1 165 - S.1 165 → d2 D Y (lA s) ad bd mu nu s H locs → lv_has ls 8 [(6, .int (nI i)), (5, .int br), (4, .int (nI M)), (0, .ref b), (1, .ref (ad 150)), (2, .ref (bd 150)), (3, .int 1)] → W p l e room_1 s m #[Value.ref b] below meth c H locs cells slots (lw_Z below #[Value.ref b] s) (F0 m 187 ls []) := by
  have X0 := X
  obtain ⟨⟨hx, hb, hml, hown, hts⟩, hr, hlk, hK⟩ := id X
  have hq6 := hAq.2.2.2.1
  intro d
  induction d with
  | zero =>
    intro i cells slots mu So br H locs ls hd hi hc1 hc2 hAo ew hJo hz h9 hbr hH hl
    obtain rfl : i = M := by omega
    refine lv_iload hx hb dL_law_187 (lv_at hl 0 rfl) ?_
    refine lv_iload hx hb dL_law_189 (lv_at hl 2 rfl) ?_
    refine lv_icmp_ge (tgt := 214) hx hb dL_law_191 (by decide) (fun _ => ?_) (fun c1 => absurd (Int32.le_refl _) c1)
    exact law_214 X0 hl0 Z hAo hAq hM hM2 ew hJo hJq hB (h9 (by omega)) hbr ⟨by omega, by omega⟩ hH (lv_sub hl [1, 2, 3, 4, 5, 6] rfl)
  | succ d ih =>
    intro i cells slots mu So br H locs ls hd hi hc1 hc2 hAo ew hJo hz h9 hbr hH hl
    obtain ⟨j1, j2⟩ := r_run hJo (T := 1) (by omega) (by omega) (by omega)
    obtain ⟨mu', e0, A1⟩ := j2 mu hAo
    have e1 : f6_run_0 1 mu = some (tkT 1 So.1 165 - So.1 165, mu') := e0
    have l6 := hAo.2.2.2.1
    have et : tkT 1 So.1 = tkT (i + 1) S.1 := by rw [ew]; exact tkT_s.symm
    have hbr2 : br + (tkT 1 So.1 165 - So.1 165) = tkT (i + 1) S.1 165 - S.1 165 := by rw [et, ew, hbr]; exact ring2 _ _ _
    refine lv_iload hx hb dL_law_187 (lv_at hl 0 rfl) ?_
    refine lv_iload hx hb dL_law_189 (lv_at hl 2 rfl) ?_
    refine lv_icmp_ge (tgt := 214) hx hb dL_law_191 (by decide) (fun c1 => absurd ((n_le (by omega) (by omega)).mp c1) (by omega)) (fun _ => ?_)
    refine lv_iload_n hx hb dL_law_194 rfl (lv_at hl 6 rfl) ?_
    refine lv_if_eq (tgt := 214) hx hb dL_law_195 (by decide) (fun c1 => absurd c1 (by decide)) (fun _ => ?_)
    refine lv_iload hx hb dL_law_198 (lv_at hl 1 rfl) ?_
    refine lv_aload_n hx hb dL_law_200 rfl (lv_at hl 4 rfl) ?_
    refine lv_iconst (v := 1) hx hb dL_law_201 (by decide) ?_
    refine ko (MC := 676661) (MS := 7071484) (As := [.ref (ad 150), .int 1]) (rest := [.int br]) ⟨rfl, rfl⟩ X Z hH (h6_run l Z.2.1.1 hl0 _ 1 e1) (vx_cwSW 2 hts qL_130 rfl rfl rfl (by decide +kernel) ⟨Nat.le_of_ble_eq_true rfl, Nat.le_of_ble_eq_true rfl⟩) rfl hl.1 rfl (Nat.le_of_ble_eq_true rfl) dL_law_202 ⟨by omega, by omega⟩ (fun H locs hH => ?_)
    refine lv_iadd hx hb dL_law_205 ?_
    refine lv_istore (lv' := [(5, .int (br + (tkT 1 So.1 165 - So.1 165))), (6, .int (nI i)), (4, .int (nI M)), (0, .ref b), (1, .ref (ad 150)), (2, .ref (bd 150)), (3, .int 1)]) hx hb dL_law_206 hl (by decide) rfl (fun ls hl => ?_)
    refine lv_iinc (v := nI (i + 1)) (lv' := [(6, .int (nI (i + 1))), (5, .int (br + (tkT 1 So.1 165 - So.1 165))), (4, .int (nI M)), (0, .ref b), (1, .ref (ad 150)), (2, .ref (bd 150)), (3, .int 1)]) hx hb dL_law_208 hl (k := 1) rfl (by exact nI_add i 1) (by decide) rfl (fun ls hl => ?_)
    refine lv_goto (tgt := 187) hx hb dL_law_211 (by decide) ?_
    refine ih (i + 1) _ _ mu' (setS (pushS So) (tkT 1 So.1)) _ H locs ls (by omega) (by omega) (by omega) (by omega) A1 et (js_mono j1 (by omega)) (fun h => by omega) (fun _ => ?_) hbr2 hH hl
    show nxN1 S.2.2.1 ≤ nxN1 So.2.2.1
    by_cases h0 : i = 0
    · rw [hz h0]; exact Nat.le_refl _
    · exact nx_mono hq6 (h9 (by omega)) l6
set_option maxRecDepth 100000 in
set_option maxHeartbeats 8000000 in
theorem law_168 (X : cX D Y p s m #[Value.ref b] meth c cL_law 8 RL ret) (hl0 : l.stackTraces = false) (Z : dZ (lA s) ad bd s) (hL : L ≤ 260) (hXs : va_X b L xs s s.heap) (hbl : b < s.heap.size) {mu nu : Nat → Nat → Int32} {S : Stt} {B : Int} (hAo : AS mu S) (hAq : AS nu S) (hJ : JS B S) (hB : B ≤ 700000000)
    {cells slots : Nat} {H : Heap} {locs : List Loc} {ls : Array Slot} (hc : cells + 2200 ≤ 676661 ∧ slots + 13000 ≤ 7071484) (hH : d2 D Y (lA s) ad bd mu nu s H locs) (hl : lv_has ls 8 [(0, .ref b), (1, .ref (ad 150)), (2, .ref (bd 150)), (3, .int 1)]) : W p l e room_1 s m #[Value.ref b] below meth c H locs cells slots (lw_Z below #[Value.ref b] s) (F0 m 168 ls []) := by
  have X0 := X
  obtain ⟨⟨hx, hb, hml, hown, hts⟩, hr, hlk, hK⟩ := id X
  have hbA : ¬ lA s b := Nat.not_le.mpr hbl
  obtain ⟨C, hC, eC⟩ := nn_n (and_nn (if 34 < L then xs 34 else 46337 * (nI 34 + 37) + 71))
  have eC : cellV L xs 34 = nI C := eC
  have hm : C % 50 < 50 := Nat.mod_lt _ (by omega)
  refine lv_iconst (v := 2) hx hb dL_law_168 (by decide) ?_
  refine lv_aload_n hx hb dL_law_169 rfl (lv_at hl 0 rfl) ?_
  refine lv_bipush (v := 34) hx hb dL_law_170 (by decide) ?_
  refine W.callR (W.runS (As := [.ref b, .int (nI 34)]) (rest := [.int 2]) X.1 (c6_cell l (b := b) (xs := xs) hL (k := 34) (by omega)) (va_cwS 2 hts qL_159 rfl rfl rfl (by decide +kernel) ⟨Nat.le_of_ble_eq_true rfl, Nat.le_of_ble_eq_true rfl⟩) ⟨cX_bl, fun U hU hW => ⟨rfl, by show va_X b L xs U U.heap; rw [hU]; exact va_X.moved hW.alike (va_X.kept hXs (hH.2.2.2.1 b hbl hbA))⟩⟩ (g := F0 m 172 ls [.int (nI 34), .ref b, .int 2]) rfl rfl hl.1 rfl (lv_room (Nat.le_of_ble_eq_true rfl)) dL_law_172 (kc6 (MC := 676661) (MS := 7071484) ⟨rfl, rfl⟩ ⟨by omega, by omega⟩)) ?_
  change W _ _ _ _ _ _ _ _ _ _ _ _ _ _ _ (F0 m 175 ls [.int (cellV L xs 34), .int 2])
  rw [eC]
  refine lv_bipush (v := 50) hx hb dL_law_175 (by decide) ?_
  refine hr_irem hx hb dL_law_177 (by decide) ?_
  rw [show rmI (nI C) 50 = nI (C % 50) from rm_n (b := 50) hC (by omega) (by omega)]
  refine lv_iadd hx hb dL_law_178 ?_
  rw [show (2 : Int32) + nI (C % 50) = nI (2 + C % 50) from nI_add 2 _]
  refine lv_istore (lv' := [(4, .int (nI (2 + C % 50))), (0, .ref b), (1, .ref (ad 150)), (2, .ref (bd 150)), (3, .int 1)]) hx hb dL_law_179 hl (by decide) rfl (fun ls hl => ?_)
  refine lv_iconst (v := 0) hx hb dL_law_181 (by decide) ?_
  refine lv_istore (lv' := [(5, .int 0), (4, .int (nI (2 + C % 50))), (0, .ref b), (1, .ref (ad 150)), (2, .ref (bd 150)), (3, .int 1)]) hx hb dL_law_182 hl (by decide) rfl (fun ls hl => ?_)
  refine lv_iconst (v := 0) hx hb dL_law_184 (by decide) ?_
  refine lv_istore (lv' := [(6, .int (nI 0)), (5, .int 0), (4, .int (nI (2 + C % 50))), (0, .ref b), (1, .ref (ad 150)), (2, .ref (bd 150)), (3, .int 1)]) hx hb dL_law_185 hl (by decide) rfl (fun ls hl => ?_)
  exact law_187 X0 hl0 Z hAq (M := 2 + C % 50) (by omega) (by omega) hJ hB (2 + C % 50) 0 cells slots mu S 0 H locs ls rfl (by omega) (by omega) (by omega) hAo rfl (js_mono hJ (by omega)) (fun _ => rfl) (fun h => absurd h (by omega)) (Int32.sub_self _).symm hH hl
set_option maxRecDepth 100000 in
set_option maxHeartbeats 8000000 in
theorem law_66 (X : cX D Y p s m #[Value.ref b] meth c cL_law 8 RL ret) (hl0 : l.stackTraces = false) (Z : dZ (lA s) ad bd s) (hL : L ≤ 260) (hXs : va_X b L xs s s.heap) (hbl : b < s.heap.size) :
    ∀ (d i cells slots : Nat) (mu nu : Nat → Nat → Int32) (S : Stt) (B : Int) (H : Heap) (locs : List Loc) (ls : Array Slot), 34 - i = d → i ≤ 34 → cells + 2508 * d + 2200 ≤ 676661 → slots + 15048 * d + 13000 ≤ 7071484 → AS mu S → AS nu S → JS B S → B + 12000 * (d : Int) ≤ 600000000 → d2 D Y (lA s) ad bd mu nu s H locs → lv_has ls 8 [(4, .int (nI i)), (0, .ref b), (1, .ref (ad 150)), (2, .ref (bd 150)), (3, .int 1)] → W p l e room_1 s m #[Value.ref b] below meth c H locs cells slots (lw_Z below #[Value.ref b] s) (F0 m 66 ls []) := by
  have X0 := X
  obtain ⟨⟨hx, hb, hml, hown, hts⟩, hr, hlk, hK⟩ := id X
  have hbA : ¬ lA s b := Nat.not_le.mpr hbl
  intro d
  induction d with
  | zero =>
    intro i cells slots mu nu S B H locs ls hd hi hc1 hc2 hAo hAq hJ hB hH hl
    obtain rfl : i = 34 := by omega
    refine lv_iload hx hb dL_law_66 (lv_at hl 0 rfl) ?_
    refine lv_bipush (v := 34) hx hb dL_law_68 (by decide) ?_
    refine lv_icmp_ge (tgt := 168) hx hb dL_law_70 (by decide) (fun _ => ?_) (fun c1 => absurd (by decide) c1)
    exact law_168 X0 hl0 Z hL hXs hbl hAo hAq hJ (by omega) ⟨by omega, by omega⟩ hH (lv_sub hl [1, 2, 3, 4] rfl)
  | succ d ih =>
    intro i cells slots mu nu S B H locs ls hd hi hc1 hc2 hAo hAq hJ hB hH hl
    have hB0 := hJ.2.2.2
    have n34 : ¬ (34 : Int32) ≤ nI i := by rw [show (34 : Int32) = nI 34 from rfl, n_le (by omega) (by omega)]; omega
    obtain ⟨C, hC, eC⟩ := nn_n (and_nn (if i < L then xs i else 46337 * (nI i + 37) + 71))
    have eC : cellV L xs i = nI C := eC
    obtain ⟨r, S', j1, j2⟩ := g_acts hC hJ (by omega)
    obtain ⟨mu', e1, A1⟩ := j2 mu hAo
    have r3 : rmI (nI i) 3 = nI (i % 3) := rm_n (b := 3) (by omega) (by omega) (by omega)
    have r2 : rmI (nI i) 2 = nI (i % 2) := rm_n (b := 2) (by omega) (by omega) (by omega)
    refine lv_iload hx hb dL_law_66 (lv_at hl 0 rfl) ?_
    refine lv_bipush (v := 34) hx hb dL_law_68 (by decide) ?_
    refine lv_icmp_ge (tgt := 168) hx hb dL_law_70 (by decide) (fun c1 => absurd c1 n34) (fun _ => ?_)
    refine lv_iload_n hx hb dL_law_73 rfl (lv_at hl 4 rfl) ?_
    refine lv_if_eq (tgt := 168) hx hb dL_law_74 (by decide) (fun c1 => absurd c1 (by decide)) (fun _ => ?_)
    refine lv_aload_n hx hb dL_law_77 rfl (lv_at hl 1 rfl) ?_
    refine lv_iload hx hb dL_law_78 (lv_at hl 0 rfl) ?_
    refine W.callR (W.runS (As := [.ref b, .int (nI i)]) (rest := []) X.1 (c6_cell l (b := b) (xs := xs) hL (k := i) (by omega)) (va_cwS 2 hts qL_159 rfl rfl rfl (by decide +kernel) ⟨Nat.le_of_ble_eq_true rfl, Nat.le_of_ble_eq_true rfl⟩) ⟨cX_bl, fun U hU hW => ⟨rfl, by show va_X b L xs U U.heap; rw [hU]; exact va_X.moved hW.alike (va_X.kept hXs (hH.2.2.2.1 b hbl hbA))⟩⟩ (g := F0 m 80 ls [.int (nI i), .ref b]) rfl rfl hl.1 rfl (lv_room (Nat.le_of_ble_eq_true rfl)) dL_law_80 (kc6 (MC := 676661) (MS := 7071484) ⟨rfl, rfl⟩ ⟨by omega, by omega⟩)) ?_
    change W _ _ _ _ _ _ _ _ _ _ _ _ _ _ _ (F0 m 83 ls [.int (cellV L xs i)])
    rw [eC]
    refine lv_istore (lv' := [(5, .int (nI C)), (4, .int (nI i)), (0, .ref b), (1, .ref (ad 150)), (2, .ref (bd 150)), (3, .int 1)]) hx hb dL_law_83 hl (by decide) rfl (fun ls hl => ?_)
    refine lv_aload_n hx hb dL_law_85 rfl (lv_at hl 3 rfl) ?_
    refine lv_iload hx hb dL_law_86 (lv_at hl 0 rfl) ?_
    refine kbo (MC := 676661) (MS := 7071484) (As := [.ref (ad 150), .int (nI C)]) (rest := []) ⟨rfl, rfl⟩ X0 Z hH (c6_acts l Z.2.1.1 hl0 _ (nI C) e1) (va_cwS 2 hts qL_163 rfl rfl rfl (by decide +kernel) ⟨Nat.le_of_ble_eq_true rfl, Nat.le_of_ble_eq_true rfl⟩) rfl hl.1 rfl (Nat.le_of_ble_eq_true rfl) dL_law_88 ⟨by omega, by omega⟩ (fun H locs hH => ?_)
    refine lv_istore (lv' := [(6, .int r), (5, .int (nI C)), (4, .int (nI i)), (0, .ref b), (1, .ref (ad 150)), (2, .ref (bd 150)), (3, .int 1)]) hx hb dL_law_91 hl (by decide) rfl (fun ls hl => ?_)
    -- the turn's end
    have k156 : ∀ (cells2 slots2 : Nat) (mu2 nu2 : Nat → Nat → Int32) (H : Heap) (locs : List Loc), cells2 + 2508 * d + 2200 ≤ 676661 → slots2 + 15048 * d + 13000 ≤ 7071484 → AS mu2 S' → AS nu2 S' → d2 D Y (lA s) ad bd mu2 nu2 s H locs → W p l e room_1 s m #[Value.ref b] below meth c H locs cells2 slots2 (lw_Z below #[Value.ref b] s) (F0 m 156 ls []) := fun cells2 slots2 mu2 nu2 H locs h1 h2 hAo hAq hH => by
      refine lv_iconst (v := 1) hx hb dL_law_156 (by decide) ?_
      refine lv_goto (tgt := 161) hx hb dL_law_157 (by decide) ?_
      refine lv_istore_n (lv' := [(3, .int 1), (6, .int r), (5, .int (nI C)), (4, .int (nI i)), (0, .ref b), (1, .ref (ad 150)), (2, .ref (bd 150))]) hx hb dL_law_161 rfl hl (by decide) rfl (fun ls hl => ?_)
      refine lv_iinc (v := nI (i + 1)) (lv' := [(4, .int (nI (i + 1))), (3, .int 1), (6, .int r), (5, .int (nI C)), (0, .ref b), (1, .ref (ad 150)), (2, .ref (bd 150))]) hx hb dL_law_162 hl (k := 3) rfl (by exact nI_add i 1) (by decide) rfl (fun ls hl => ?_)
      refine lv_goto (tgt := 66) hx hb dL_law_165 (by decide) ?_
      exact ih (i + 1) cells2 slots2 mu2 nu2 S' (B + 12000) H locs ls (by omega) (by omega) (by omega) (by omega) hAo hAq j1 (by omega) hH (lv_sub hl [0, 4, 5, 6, 1] rfl)
    -- the other railway's call
    have k112 : ∀ (cells2 slots2 : Nat) (nu2 : Nat → Nat → Int32) (H : Heap) (locs : List Loc), cells2 + 2217 + 2508 * d + 2200 ≤ 676661 → slots2 + 13302 + 15048 * d + 13000 ≤ 7071484 → AS nu2 S → d2 D Y (lA s) ad bd mu' nu2 s H locs → W p l e room_1 s m #[Value.ref b] below meth c H locs cells2 slots2 (lw_Z below #[Value.ref b] s) (F0 m 112 ls []) := fun cells2 slots2 nu2 H locs h1 h2 hAq hH => by
      obtain ⟨nu', e2, A2⟩ := j2 nu2 hAq
      have M := sm_s A1 A2 j1
      refine lv_aload_n hx hb dL_law_112 rfl (lv_at hl 5 rfl) ?_
      refine lv_iload hx hb dL_law_113 (lv_at hl 1 rfl) ?_
      refine kbq (MC := 676661) (MS := 7071484) (As := [.ref (bd 150), .int (nI C)]) (rest := []) ⟨rfl, rfl⟩ X0 Z hH (c6_acts l Z.2.1.2.1 hl0 _ (nI C) e2) (va_cwS 2 hts qL_163 rfl rfl rfl (by decide +kernel) ⟨Nat.le_of_ble_eq_true rfl, Nat.le_of_ble_eq_true rfl⟩) rfl hl.1 rfl (Nat.le_of_ble_eq_true rfl) dL_law_115 ⟨by omega, by omega⟩ (fun H locs hH => ?_)
      refine lv_iload hx hb dL_law_118 (lv_at hl 0 rfl) ?_
      refine lv_icmp_ne (tgt := 160) hx hb dL_law_120 (by decide) (fun c1 => absurd rfl c1) (fun _ => ?_)
      refine lv_aload_n hx hb dL_law_123 rfl (lv_at hl 4 rfl) ?_
      refine lv_aload_n hx hb dL_law_124 rfl (lv_at hl 5 rfl) ?_
      refine kbs (MC := 676661) (MS := 7071484) (As := [.ref (ad 150), .ref (bd 150)]) (rest := []) ⟨rfl, rfl⟩ X0 Z hH (c6_same l Z.2.1.1 Z.2.1.2.1 Z.2.1.2.2 hl0 M _) (va_cwS 2 hts qL_171 rfl rfl rfl (by decide +kernel) ⟨Nat.le_of_ble_eq_true rfl, Nat.le_of_ble_eq_true rfl⟩) rfl hl.1 rfl (Nat.le_of_ble_eq_true rfl) dL_law_125 ⟨by omega, by omega⟩ (fun H locs hH => ?_)
      refine lv_if_eq (tgt := 160) hx hb dL_law_128 (by decide) (fun c1 => absurd (show (1 : Int32) = 0 from c1) (by decide)) (fun _ => ?_)
      refine lv_iload hx hb dL_law_131 (lv_at hl 2 rfl) ?_
      refine lv_iconst (v := 3) hx hb dL_law_133 (by decide) ?_
      refine hr_irem hx hb dL_law_134 (by decide) ?_
      refine lv_if_gt (tgt := 156) hx hb dL_law_135 (by decide) (fun _ => ?_) (fun _ => ?_)
      · exact k156 _ _ mu' nu' H locs (by omega) (by omega) A1 A2 hH
      · refine lv_iload hx hb dL_law_138 (lv_at hl 2 rfl) ?_
        refine lv_iconst (v := 2) hx hb dL_law_140 (by decide) ?_
        refine hr_irem hx hb dL_law_141 (by decide) ?_
        refine lv_if_ne (tgt := 149) hx hb dL_law_142 (by decide) (fun _ => ?_) (fun _ => ?_)
        · obtain ⟨nu3, h3, A3⟩ := g_hangs A2 j1 (by omega)
          refine lv_aload_n hx hb dL_law_149 rfl (lv_at hl 5 rfl) ?_
          refine kbq (MC := 676661) (MS := 7071484) (As := [.ref (bd 150)]) (rest := []) ⟨rfl, rfl⟩ X0 Z hH (c6_hangs l Z.2.1.2.1 hl0 _ h3) (va_cwS 1 hts qL_155 rfl rfl rfl (by decide +kernel) ⟨Nat.le_of_ble_eq_true rfl, Nat.le_of_ble_eq_true rfl⟩) rfl hl.1 rfl (Nat.le_of_ble_eq_true rfl) dL_law_150 ⟨by omega, by omega⟩ (fun H locs hH => ?_)
          refine lv_if_eq (tgt := 160) hx hb dL_law_153 (by decide) (fun c1 => absurd (show (1 : Int32) = 0 from c1) (by decide)) (fun _ => ?_)
          exact k156 _ _ mu' nu3 H locs (by omega) (by omega) A1 A3 hH
        · obtain ⟨mu3, h3, A3⟩ := g_hangs A1 j1 (by omega)
          refine lv_aload_n hx hb dL_law_145 rfl (lv_at hl 4 rfl) ?_
          refine lv_goto (tgt := 150) hx hb dL_law_146 (by decide) ?_
          refine kbo (MC := 676661) (MS := 7071484) (As := [.ref (ad 150)]) (rest := []) ⟨rfl, rfl⟩ X0 Z hH (c6_hangs l Z.2.1.1 hl0 _ h3) (va_cwS 1 hts qL_155 rfl rfl rfl (by decide +kernel) ⟨Nat.le_of_ble_eq_true rfl, Nat.le_of_ble_eq_true rfl⟩) rfl hl.1 rfl (Nat.le_of_ble_eq_true rfl) dL_law_150 ⟨by omega, by omega⟩ (fun H locs hH => ?_)
          refine lv_if_eq (tgt := 160) hx hb dL_law_153 (by decide) (fun c1 => absurd (show (1 : Int32) = 0 from c1) (by decide)) (fun _ => ?_)
          exact k156 _ _ mu3 nu' H locs (by omega) (by omega) A3 A2 hH
    refine lv_iload hx hb dL_law_93 (lv_at hl 2 rfl) ?_
    refine lv_iconst (v := 3) hx hb dL_law_95 (by decide) ?_
    refine hr_irem hx hb dL_law_96 (by decide) ?_
    refine lv_if_gt (tgt := 112) hx hb dL_law_97 (by decide) (fun _ => ?_) (fun _ => ?_)
    · exact k112 _ _ nu H locs (by omega) (by omega) hAq hH
    · obtain ⟨nu2, h2, A2⟩ := g_refuses (y := C % 100000) hAq hJ (Nat.mod_lt _ (by omega))
      refine lv_aload_n hx hb dL_law_100 rfl (lv_at hl 5 rfl) ?_
      refine lv_iload hx hb dL_law_101 (lv_at hl 1 rfl) ?_
      refine lv_ldc hx hb hown (hts _ gkL_166) dL_law_103 ?_
      refine hr_irem hx hb dL_law_105 (by decide) ?_
      rw [show rmI (nI C) 100000 = nI (C % 100000) from rm_n (b := 100000) hC (by omega) (by omega)]
      refine kbq (MC := 676661) (MS := 7071484) (As := [.ref (bd 150), .int (nI (C % 100000))]) (rest := []) ⟨rfl, rfl⟩ X0 Z hH (c6_refuses l Z.2.1.2.1 hl0 _ (nI (C % 100000)) h2) (va_cwS 2 hts qL_167 rfl rfl rfl (by decide +kernel) ⟨Nat.le_of_ble_eq_true rfl, Nat.le_of_ble_eq_true rfl⟩) rfl hl.1 rfl (Nat.le_of_ble_eq_true rfl) dL_law_106 ⟨by omega, by omega⟩ (fun H locs hH => ?_)
      refine lv_if_eq (tgt := 160) hx hb dL_law_109 (by decide) (fun c1 => absurd (show (1 : Int32) = 0 from c1) (by decide)) (fun _ => ?_)
      exact k112 _ _ nu2 H locs (by omega) (by omega) A2 hH
end Law
