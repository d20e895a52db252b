/-! the law's cases -/
def lK (D : va_G) (Y : cYt) (cI cZ cL : ClassId) (ad bd : Nat → Nat) (o : Nat) (p : Program) (l : Launch) (e : Env) (s : State) (m : MethodId) (below : List Frame) (meth : Method) (c : Code) (b i cells slots : Nat) (Q : State → Prop) : Prop :=
  ∀ (mu : Nat → Nat → Int32) (f : Nat → Int64) (v0 v1 v2 v3 v4 v5 v6 v7 v8 : Nat → Int32) (H : Heap) (locs : List Loc) (ls : Array Slot), lH D Y cI cZ cL ad bd o mu f v0 v1 v2 v3 v4 v5 v6 v7 v8 s H locs → Rel mu v0 v1 v3 v4 v5 v6 → lv_has ls 9 [(0, .ref b), (1, .ref (ad 150)), (2, .ref (bd 0)), (3, .ref o), (4, .int (nI i))] → W p l e room_1 s m #[Value.ref b] below meth c H locs cells slots Q (F0 m 1637 ls [])
theorem lg_same {x y : Int64} (h : x = y) : lg_cmp x y = 0 := (lg_cmp_eq x y).mpr h
section CasesA
variable {p : Program} {l : Launch} {e : Env} {s : State} {m : MethodId} {below : List Frame} {meth : Method} {c : Code} {D : va_G} {Y : cYt} {cI cZ cL : ClassId} {ad bd : Nat → Nat} {o : Nat} {mu : Nat → Nat → Int32} {f : Nat → Int64} {v0 v1 v2 v3 v4 v5 v6 v7 v8 : Nat → Int32} {H : Heap} {locs : List Loc} {cells slots : Nat} {Q : State → Prop} {ls : Array Slot} {b L i : Nat} {xs : Nat → Int32}
set_option maxRecDepth 100000 in
set_option maxHeartbeats 4000000 in
theorem lc_grade (F : lF D Y cI cZ cL ad bd o p l s m #[Value.ref b] c) (hX : va_X b L xs s s.heap) (hbl : b < s.heap.size) (hH : lH D Y cI cZ cL ad bd o mu f v0 v1 v2 v3 v4 v5 v6 v7 v8 s H locs) (hR : Rel mu v0 v1 v3 v4 v5 v6) (hc : cells + 3 ≤ 601024 ∧ slots + 18 ≤ 7293034) (hL : L ≤ 2048) (hi : i + 3 < L) (hl : lv_has ls 9 [(0, .ref b), (1, .ref (ad 150)), (2, .ref (bd 0)), (3, .ref o), (4, .int (nI i))]) (kk : lK D Y cI cZ cL ad bd o p l e s m below meth c b i (cells + 3) (slots + 18) Q) : W p l e room_1 s m #[Value.ref b] below meth c H locs cells slots Q (F0 m 156 ls []) := by
  obtain ⟨SF, hl0, ⟨hI, hJ, hab, hao, hbo⟩, ⟨ha0, hb0, ho0⟩, ⟨hK, hKm, hKo⟩, hz, hn0⟩ := id F
  have hx := SF.1
  have hb := SF.2.1
  have hts := SF.2.2.2.2
  have hbA : ¬ (fun q : Nat => s.heap.size ≤ q) b := Nat.not_le.mpr hbl
  have hi1 : vp_in (nI i + 1) L := by rw [show nI i + 1 = nI (i + 1) from nI_add i 1]; exact vp_in_nI (by omega) (by omega)
  obtain ⟨x1, hx1⟩ : ∃ x, x = xs (Int32.toNatClampNeg (nI i + 1)) := ⟨_, rfl⟩
  have hi2 : vp_in (nI i + 2) L := by rw [show nI i + 2 = nI (i + 2) from nI_add i 2]; exact vp_in_nI (by omega) (by omega)
  obtain ⟨x2, hx2⟩ : ∃ x, x = xs (Int32.toNatClampNeg (nI i + 2)) := ⟨_, rfl⟩
  obtain ⟨t, r, v0', v1', v3', e1, e2, hR1, hk⟩ := q_grade x1 x2 hR
  have hk1 : t.1 = 0 ∧ v0' 8 = 0 ∨ t.1 = 1 ∧ v0' 8 = 1 ∨ t.1 = 2 ∧ v0' 8 = 2 := hk.imp (fun h => ⟨h.1, h.2.1⟩) id
  have hv : v0' 8 = 0 → t.2.1 = r := fun c9 => by
    rcases hk with ⟨_, _, h⟩ | ⟨_, h⟩ | ⟨_, h⟩
    · exact h
    · rw [h] at c9; exact absurd c9 (by decide)
    · rw [h] at c9; exact absurd c9 (by decide)
  refine lv_aload_n hx hb dL_law_156 rfl (lv_at hl 1 rfl) ?_
  refine lv_aload_n hx hb dL_law_157 rfl (lv_at hl 0 rfl) ?_
  refine lv_iload hx hb dL_law_158 (lv_at hl 4 rfl) ?_
  refine lv_iconst (v := 1) hx hb dL_law_160 (by decide) ?_
  refine lv_iadd hx hb dL_law_161 ?_
  refine va_sld hx hb hX hbl hbA hH.2.2.2 hi1 dL_law_162 ?_
  rw [← hx1]
  refine lv_aload_n hx hb dL_law_163 rfl (lv_at hl 0 rfl) ?_
  refine lv_iload hx hb dL_law_164 (lv_at hl 4 rfl) ?_
  refine lv_iconst (v := 2) hx hb dL_law_166 (by decide) ?_
  refine lv_iadd hx hb dL_law_167 ?_
  refine va_sld hx hb hX hbl hbA hH.2.2.2 hi2 dL_law_168 ?_
  rw [← hx2]
  refine lv_aload_n hx hb dL_law_169 rfl (lv_at hl 3 rfl) ?_
  refine kL F hH (h6_grade l hI hl0 H.size ⟨va_at.lt (hH.2.2.1 0 _ rfl), hao⟩ x1 x2 e1 hk1) (vx_cwSW 4 hts qL_93 rfl rfl rfl (by decide +kernel) ⟨Nat.le_of_ble_eq_true rfl, Nat.le_of_ble_eq_true rfl⟩) rfl hl.1 rfl (Nat.le_of_ble_eq_true rfl) dL_law_170 hc (fun H locs g hg hH => ?_)
  refine lv_istore (lv' := [(5, .int (v0' 8)), (0, .ref b), (1, .ref (ad 150)), (2, .ref (bd 0)), (3, .ref o), (4, .int (nI i))]) hx hb dL_law_173 hl (by decide) rfl (fun ls hl => ?_)
  refine lv_aload_n hx hb dL_law_175 rfl (lv_at hl 3 rfl) ?_
  refine lv_aload_n hx hb dL_law_176 rfl (lv_at hl 1 rfl) ?_
  refine lv_iload hx hb dL_law_177 (lv_at hl 5 rfl) ?_
  refine lv_iconst (v := 1) hx hb dL_law_179 (by decide) ?_
  refine lv_iadd hx hb dL_law_180 ?_
  refine va_sld hx hb hX hbl hbA hH.2.2.2 hi1 dL_law_181 ?_
  rw [← hx1]
  refine lv_aload_n hx hb dL_law_182 rfl (lv_at hl 1 rfl) ?_
  refine lv_iload hx hb dL_law_183 (lv_at hl 5 rfl) ?_
  refine lv_iconst (v := 2) hx hb dL_law_185 (by decide) ?_
  refine lv_iadd hx hb dL_law_186 ?_
  refine va_sld hx hb hX hbl hbA hH.2.2.2 hi2 dL_law_187 ?_
  rw [← hx2]
  refine kM F hH (c5_grade l hJ H.size x1 x2 e2) (cwV 2 hts qL_98 rfl rfl rfl (by decide +kernel) ⟨Nat.le_of_ble_eq_true rfl, Nat.le_of_ble_eq_true rfl⟩) rfl hl.1 rfl (Nat.le_of_ble_eq_true rfl) dL_law_188 ⟨by omega, by omega⟩ (fun H locs (hH : lH D Y cI cZ cL ad bd o t.2.2 g v0' v1' v2 v3' v4 v5 v6 v7 v8 s H locs) => ?_)
  refine lv_istore (lv' := [(6, .int r), (5, .int (v0' 8)), (0, .ref b), (1, .ref (ad 150)), (2, .ref (bd 0)), (3, .ref o), (4, .int (nI i))]) hx hb dL_law_191 hl (by decide) rfl (fun ls hl => ?_)
  refine lv_aload_n hx hb dL_law_193 rfl (lv_at hl 4 rfl) ?_
  refine kT F hH hl.1 rfl (Nat.le_of_ble_eq_true rfl) dL_law_194 ⟨by omega, by omega⟩ ?_
  refine lv_iload hx hb dL_law_197 (lv_at hl 1 rfl) ?_
  refine lv_icmp_eq (tgt := 204) hx hb dL_law_199 (by decide) (fun c1 => ?_) (fun c1 => absurd rfl c1)
  refine lv_iload hx hb dL_law_204 (lv_at hl 1 rfl) ?_
  refine lv_if_ne (tgt := 221) hx hb dL_law_206 (by decide) (fun c2 => ?_) (fun c2 => ?_)
  · refine lv_goto (tgt := 1637) hx hb dL_law_221 (by decide) ?_
    exact kk t.2.2 g v0' v1' v2 v3' v4 v5 v6 v7 v8 H locs ls hH hR1 (lv_sub hl [2, 3, 4, 5, 6] rfl)
  · refine lv_aload_n hx hb dL_law_209 rfl (lv_at hl 5 rfl) ?_
    refine lv_iconst (v := 0) hx hb dL_law_210 (by decide) ?_
    refine va_lald hx hb hKo hH.2.2.1 0 0 rfl rfl (vp_in_nI (n := 0) (by omega) (by omega)) dL_law_211 ?_
    refine lv_iload hx hb dL_law_212 (lv_at hl 0 rfl) ?_
    refine lv_i2l hx hb dL_law_214 rfl ?_
    refine W.lcmp hx hb dL_law_215 ?_
    refine lv_if_eq (tgt := 221) hx hb dL_law_216 (by decide) (fun c3 => ?_) (fun c3 => absurd (lg_same (show g (Int32.toNatClampNeg 0) = r.toInt64 from (hg c2).trans (by rw [hv c2]))) c3)
    refine lv_goto (tgt := 1637) hx hb dL_law_221 (by decide) ?_
    exact kk t.2.2 g v0' v1' v2 v3' v4 v5 v6 v7 v8 H locs ls hH hR1 (lv_sub hl [2, 3, 4, 5, 6] rfl)
set_option maxRecDepth 100000 in
set_option maxHeartbeats 4000000 in
theorem lc_spring (F : lF D Y cI cZ cL ad bd o p l s m #[Value.ref b] c) (hX : va_X b L xs s s.heap) (hbl : b < s.heap.size) (hH : lH D Y cI cZ cL ad bd o mu f v0 v1 v2 v3 v4 v5 v6 v7 v8 s H locs) (hR : Rel mu v0 v1 v3 v4 v5 v6) (hc : cells + 3 ≤ 601024 ∧ slots + 18 ≤ 7293034) (hL : L ≤ 2048) (hi : i + 3 < L) (hl : lv_has ls 9 [(0, .ref b), (1, .ref (ad 150)), (2, .ref (bd 0)), (3, .ref o), (4, .int (nI i))]) (kk : lK D Y cI cZ cL ad bd o p l e s m below meth c b i (cells + 3) (slots + 18) Q) : W p l e room_1 s m #[Value.ref b] below meth c H locs cells slots Q (F0 m 224 ls []) := by
  obtain ⟨SF, hl0, ⟨hI, hJ, hab, hao, hbo⟩, ⟨ha0, hb0, ho0⟩, ⟨hK, hKm, hKo⟩, hz, hn0⟩ := id F
  have hx := SF.1
  have hb := SF.2.1
  have hts := SF.2.2.2.2
  have hbA : ¬ (fun q : Nat => s.heap.size ≤ q) b := Nat.not_le.mpr hbl
  have hi1 : vp_in (nI i + 1) L := by rw [show nI i + 1 = nI (i + 1) from nI_add i 1]; exact vp_in_nI (by omega) (by omega)
  obtain ⟨x1, hx1⟩ : ∃ x, x = xs (Int32.toNatClampNeg (nI i + 1)) := ⟨_, rfl⟩
  have hi2 : vp_in (nI i + 2) L := by rw [show nI i + 2 = nI (i + 2) from nI_add i 2]; exact vp_in_nI (by omega) (by omega)
  obtain ⟨x2, hx2⟩ : ∃ x, x = xs (Int32.toNatClampNeg (nI i + 2)) := ⟨_, rfl⟩
  obtain ⟨t, r, v0', v1', v3', e1, e2, hR1, hk⟩ := q_spring x1 x2 hR
  have hk1 : t.1 = 0 ∧ v0' 8 = 0 ∨ t.1 = 1 ∧ v0' 8 = 1 ∨ t.1 = 2 ∧ v0' 8 = 2 ∨ t.1 = 3 ∧ v0' 8 = 3 := hk.imp (fun h => ⟨h.1, h.2.1⟩) id
  have hv : v0' 8 = 0 → t.2.1 = r := fun c9 => by
    rcases hk with ⟨_, _, h⟩ | ⟨_, h⟩ | ⟨_, h⟩ | ⟨_, h⟩
    · exact h
    · rw [h] at c9; exact absurd c9 (by decide)
    · rw [h] at c9; exact absurd c9 (by decide)
    · rw [h] at c9; exact absurd c9 (by decide)
  refine lv_aload_n hx hb dL_law_224 rfl (lv_at hl 1 rfl) ?_
  refine lv_aload_n hx hb dL_law_225 rfl (lv_at hl 0 rfl) ?_
  refine lv_iload hx hb dL_law_226 (lv_at hl 4 rfl) ?_
  refine lv_iconst (v := 1) hx hb dL_law_228 (by decide) ?_
  refine lv_iadd hx hb dL_law_229 ?_
  refine va_sld hx hb hX hbl hbA hH.2.2.2 hi1 dL_law_230 ?_
  rw [← hx1]
  refine lv_aload_n hx hb dL_law_231 rfl (lv_at hl 0 rfl) ?_
  refine lv_iload hx hb dL_law_232 (lv_at hl 4 rfl) ?_
  refine lv_iconst (v := 2) hx hb dL_law_234 (by decide) ?_
  refine lv_iadd hx hb dL_law_235 ?_
  refine va_sld hx hb hX hbl hbA hH.2.2.2 hi2 dL_law_236 ?_
  rw [← hx2]
  refine lv_aload_n hx hb dL_law_237 rfl (lv_at hl 3 rfl) ?_
  refine kL F hH (h6_spring l hI hl0 H.size ⟨va_at.lt (hH.2.2.1 0 _ rfl), hao⟩ x1 x2 e1 hk1) (vx_cwSW 4 hts qL_102 rfl rfl rfl (by decide +kernel) ⟨Nat.le_of_ble_eq_true rfl, Nat.le_of_ble_eq_true rfl⟩) rfl hl.1 rfl (Nat.le_of_ble_eq_true rfl) dL_law_238 hc (fun H locs g hg hH => ?_)
  refine lv_istore (lv' := [(5, .int (v0' 8)), (0, .ref b), (1, .ref (ad 150)), (2, .ref (bd 0)), (3, .ref o), (4, .int (nI i))]) hx hb dL_law_241 hl (by decide) rfl (fun ls hl => ?_)
  refine lv_aload_n hx hb dL_law_243 rfl (lv_at hl 3 rfl) ?_
  refine lv_aload_n hx hb dL_law_244 rfl (lv_at hl 1 rfl) ?_
  refine lv_iload hx hb dL_law_245 (lv_at hl 5 rfl) ?_
  refine lv_iconst (v := 1) hx hb dL_law_247 (by decide) ?_
  refine lv_iadd hx hb dL_law_248 ?_
  refine va_sld hx hb hX hbl hbA hH.2.2.2 hi1 dL_law_249 ?_
  rw [← hx1]
  refine lv_aload_n hx hb dL_law_250 rfl (lv_at hl 1 rfl) ?_
  refine lv_iload hx hb dL_law_251 (lv_at hl 5 rfl) ?_
  refine lv_iconst (v := 2) hx hb dL_law_253 (by decide) ?_
  refine lv_iadd hx hb dL_law_254 ?_
  refine va_sld hx hb hX hbl hbA hH.2.2.2 hi2 dL_law_255 ?_
  rw [← hx2]
  refine kM F hH (c5_spring l hJ H.size x1 x2 e2) (cwV 2 hts qL_104 rfl rfl rfl (by decide +kernel) ⟨Nat.le_of_ble_eq_true rfl, Nat.le_of_ble_eq_true rfl⟩) rfl hl.1 rfl (Nat.le_of_ble_eq_true rfl) dL_law_256 ⟨by omega, by omega⟩ (fun H locs (hH : lH D Y cI cZ cL ad bd o t.2.2 g v0' v1' v2 v3' v4 v5 v6 v7 v8 s H locs) => ?_)
  refine lv_istore (lv' := [(6, .int r), (5, .int (v0' 8)), (0, .ref b), (1, .ref (ad 150)), (2, .ref (bd 0)), (3, .ref o), (4, .int (nI i))]) hx hb dL_law_259 hl (by decide) rfl (fun ls hl => ?_)
  refine lv_aload_n hx hb dL_law_261 rfl (lv_at hl 4 rfl) ?_
  refine kT F hH hl.1 rfl (Nat.le_of_ble_eq_true rfl) dL_law_262 ⟨by omega, by omega⟩ ?_
  refine lv_iload hx hb dL_law_265 (lv_at hl 1 rfl) ?_
  refine lv_icmp_eq (tgt := 272) hx hb dL_law_267 (by decide) (fun c1 => ?_) (fun c1 => absurd rfl c1)
  refine lv_iload hx hb dL_law_272 (lv_at hl 1 rfl) ?_
  refine lv_if_ne (tgt := 289) hx hb dL_law_274 (by decide) (fun c2 => ?_) (fun c2 => ?_)
  · refine lv_goto (tgt := 1637) hx hb dL_law_289 (by decide) ?_
    exact kk t.2.2 g v0' v1' v2 v3' v4 v5 v6 v7 v8 H locs ls hH hR1 (lv_sub hl [2, 3, 4, 5, 6] rfl)
  · refine lv_aload_n hx hb dL_law_277 rfl (lv_at hl 5 rfl) ?_
    refine lv_iconst (v := 0) hx hb dL_law_278 (by decide) ?_
    refine va_lald hx hb hKo hH.2.2.1 0 0 rfl rfl (vp_in_nI (n := 0) (by omega) (by omega)) dL_law_279 ?_
    refine lv_iload hx hb dL_law_280 (lv_at hl 0 rfl) ?_
    refine lv_i2l hx hb dL_law_282 rfl ?_
    refine W.lcmp hx hb dL_law_283 ?_
    refine lv_if_eq (tgt := 289) hx hb dL_law_284 (by decide) (fun c3 => ?_) (fun c3 => absurd (lg_same (show g (Int32.toNatClampNeg 0) = r.toInt64 from (hg c2).trans (by rw [hv c2]))) c3)
    refine lv_goto (tgt := 1637) hx hb dL_law_289 (by decide) ?_
    exact kk t.2.2 g v0' v1' v2 v3' v4 v5 v6 v7 v8 H locs ls hH hR1 (lv_sub hl [2, 3, 4, 5, 6] rfl)
set_option maxRecDepth 100000 in
set_option maxHeartbeats 4000000 in
theorem lc_car (F : lF D Y cI cZ cL ad bd o p l s m #[Value.ref b] c) (hX : va_X b L xs s s.heap) (hbl : b < s.heap.size) (hH : lH D Y cI cZ cL ad bd o mu f v0 v1 v2 v3 v4 v5 v6 v7 v8 s H locs) (hR : Rel mu v0 v1 v3 v4 v5 v6) (hc : cells + 3 ≤ 601024 ∧ slots + 18 ≤ 7293034) (hL : L ≤ 2048) (hi : i + 3 < L) (hl : lv_has ls 9 [(0, .ref b), (1, .ref (ad 150)), (2, .ref (bd 0)), (3, .ref o), (4, .int (nI i))]) (kk : lK D Y cI cZ cL ad bd o p l e s m below meth c b i (cells + 3) (slots + 18) Q) : W p l e room_1 s m #[Value.ref b] below meth c H locs cells slots Q (F0 m 292 ls []) := by
  obtain ⟨SF, hl0, ⟨hI, hJ, hab, hao, hbo⟩, ⟨ha0, hb0, ho0⟩, ⟨hK, hKm, hKo⟩, hz, hn0⟩ := id F
  have hx := SF.1
  have hb := SF.2.1
  have hts := SF.2.2.2.2
  have hbA : ¬ (fun q : Nat => s.heap.size ≤ q) b := Nat.not_le.mpr hbl
  obtain ⟨t, r, v0', v1', v3', e1, e2, hR1, hk⟩ := q_car hR
  have hk1 : t.1 = 0 ∧ v0' 8 = 0 ∨ t.1 = 3 ∧ v0' 8 = 1 := hk.imp (fun h => ⟨h.1, h.2.1⟩) id
  have hv : v0' 8 = 0 → t.2.1 = r := fun c9 => by
    rcases hk with ⟨_, _, h⟩ | ⟨_, h⟩
    · exact h
    · rw [h] at c9; exact absurd c9 (by decide)
  refine lv_aload_n hx hb dL_law_292 rfl (lv_at hl 1 rfl) ?_
  refine lv_aload_n hx hb dL_law_293 rfl (lv_at hl 3 rfl) ?_
  refine kL F hH (h6_car l hI hl0 H.size ⟨va_at.lt (hH.2.2.1 0 _ rfl), hao⟩ e1 hk1) (vx_cwSW 2 hts qL_105 rfl rfl rfl (by decide +kernel) ⟨Nat.le_of_ble_eq_true rfl, Nat.le_of_ble_eq_true rfl⟩) rfl hl.1 rfl (Nat.le_of_ble_eq_true rfl) dL_law_294 hc (fun H locs g hg hH => ?_)
  refine lv_istore (lv' := [(5, .int (v0' 8)), (0, .ref b), (1, .ref (ad 150)), (2, .ref (bd 0)), (3, .ref o), (4, .int (nI i))]) hx hb dL_law_297 hl (by decide) rfl (fun ls hl => ?_)
  refine lv_aload_n hx hb dL_law_299 rfl (lv_at hl 3 rfl) ?_
  refine kM F hH (c5_car l hJ H.size e2) (cwV 0 hts qL_108 rfl rfl rfl (by decide +kernel) ⟨Nat.le_of_ble_eq_true rfl, Nat.le_of_ble_eq_true rfl⟩) rfl hl.1 rfl (Nat.le_of_ble_eq_true rfl) dL_law_300 ⟨by omega, by omega⟩ (fun H locs (hH : lH D Y cI cZ cL ad bd o t.2.2 g v0' v1' v2 v3' v4 v5 v6 v7 v8 s H locs) => ?_)
  refine lv_istore (lv' := [(6, .int r), (5, .int (v0' 8)), (0, .ref b), (1, .ref (ad 150)), (2, .ref (bd 0)), (3, .ref o), (4, .int (nI i))]) hx hb dL_law_303 hl (by decide) rfl (fun ls hl => ?_)
  refine lv_aload_n hx hb dL_law_305 rfl (lv_at hl 4 rfl) ?_
  refine kT F hH hl.1 rfl (Nat.le_of_ble_eq_true rfl) dL_law_306 ⟨by omega, by omega⟩ ?_
  refine lv_iload hx hb dL_law_309 (lv_at hl 1 rfl) ?_
  refine lv_icmp_eq (tgt := 316) hx hb dL_law_311 (by decide) (fun c1 => ?_) (fun c1 => absurd rfl c1)
  refine lv_iload hx hb dL_law_316 (lv_at hl 1 rfl) ?_
  refine lv_if_ne (tgt := 333) hx hb dL_law_318 (by decide) (fun c2 => ?_) (fun c2 => ?_)
  · refine lv_goto (tgt := 1637) hx hb dL_law_333 (by decide) ?_
    exact kk t.2.2 g v0' v1' v2 v3' v4 v5 v6 v7 v8 H locs ls hH hR1 (lv_sub hl [2, 3, 4, 5, 6] rfl)
  · refine lv_aload_n hx hb dL_law_321 rfl (lv_at hl 5 rfl) ?_
    refine lv_iconst (v := 0) hx hb dL_law_322 (by decide) ?_
    refine va_lald hx hb hKo hH.2.2.1 0 0 rfl rfl (vp_in_nI (n := 0) (by omega) (by omega)) dL_law_323 ?_
    refine lv_iload hx hb dL_law_324 (lv_at hl 0 rfl) ?_
    refine lv_i2l hx hb dL_law_326 rfl ?_
    refine W.lcmp hx hb dL_law_327 ?_
    refine lv_if_eq (tgt := 333) hx hb dL_law_328 (by decide) (fun c3 => ?_) (fun c3 => absurd (lg_same (show g (Int32.toNatClampNeg 0) = r.toInt64 from (hg c2).trans (by rw [hv c2]))) c3)
    refine lv_goto (tgt := 1637) hx hb dL_law_333 (by decide) ?_
    exact kk t.2.2 g v0' v1' v2 v3' v4 v5 v6 v7 v8 H locs ls hH hR1 (lv_sub hl [2, 3, 4, 5, 6] rfl)
set_option maxRecDepth 100000 in
set_option maxHeartbeats 4000000 in
theorem lc_load (F : lF D Y cI cZ cL ad bd o p l s m #[Value.ref b] c) (hX : va_X b L xs s s.heap) (hbl : b < s.heap.size) (hH : lH D Y cI cZ cL ad bd o mu f v0 v1 v2 v3 v4 v5 v6 v7 v8 s H locs) (hR : Rel mu v0 v1 v3 v4 v5 v6) (hc : cells + 3 ≤ 601024 ∧ slots + 18 ≤ 7293034) (hL : L ≤ 2048) (hi : i + 3 < L) (hl : lv_has ls 9 [(0, .ref b), (1, .ref (ad 150)), (2, .ref (bd 0)), (3, .ref o), (4, .int (nI i))]) (kk : lK D Y cI cZ cL ad bd o p l e s m below meth c b i (cells + 3) (slots + 18) Q) : W p l e room_1 s m #[Value.ref b] below meth c H locs cells slots Q (F0 m 336 ls []) := by
  obtain ⟨SF, hl0, ⟨hI, hJ, hab, hao, hbo⟩, ⟨ha0, hb0, ho0⟩, ⟨hK, hKm, hKo⟩, hz, hn0⟩ := id F
  have hx := SF.1
  have hb := SF.2.1
  have hts := SF.2.2.2.2
  have hbA : ¬ (fun q : Nat => s.heap.size ≤ q) b := Nat.not_le.mpr hbl
  have hi1 : vp_in (nI i + 1) L := by rw [show nI i + 1 = nI (i + 1) from nI_add i 1]; exact vp_in_nI (by omega) (by omega)
  obtain ⟨x1, hx1⟩ : ∃ x, x = xs (Int32.toNatClampNeg (nI i + 1)) := ⟨_, rfl⟩
  have hi2 : vp_in (nI i + 2) L := by rw [show nI i + 2 = nI (i + 2) from nI_add i 2]; exact vp_in_nI (by omega) (by omega)
  obtain ⟨x2, hx2⟩ : ∃ x, x = xs (Int32.toNatClampNeg (nI i + 2)) := ⟨_, rfl⟩
  obtain ⟨t, r, v0', v1', v3', e1, e2, hR1, hk⟩ := q_load x1 x2 hR
  have hk1 : t.1 = 0 ∧ v0' 8 = 0 ∨ t.1 = 1 ∧ v0' 8 = 1 ∨ t.1 = 2 ∧ v0' 8 = 2 ∨ t.1 = 3 ∧ v0' 8 = 3 := hk.imp (fun h => ⟨h.1, h.2.1⟩) id
  have hv : v0' 8 = 0 → t.2.1 = r := fun c9 => by
    rcases hk with ⟨_, _, h⟩ | ⟨_, h⟩ | ⟨_, h⟩ | ⟨_, h⟩
    · exact h
    · rw [h] at c9; exact absurd c9 (by decide)
    · rw [h] at c9; exact absurd c9 (by decide)
    · rw [h] at c9; exact absurd c9 (by decide)
  refine lv_aload_n hx hb dL_law_336 rfl (lv_at hl 1 rfl) ?_
  refine lv_aload_n hx hb dL_law_337 rfl (lv_at hl 0 rfl) ?_
  refine lv_iload hx hb dL_law_338 (lv_at hl 4 rfl) ?_
  refine lv_iconst (v := 1) hx hb dL_law_340 (by decide) ?_
  refine lv_iadd hx hb dL_law_341 ?_
  refine va_sld hx hb hX hbl hbA hH.2.2.2 hi1 dL_law_342 ?_
  rw [← hx1]
  refine lv_aload_n hx hb dL_law_343 rfl (lv_at hl 0 rfl) ?_
  refine lv_iload hx hb dL_law_344 (lv_at hl 4 rfl) ?_
  refine lv_iconst (v := 2) hx hb dL_law_346 (by decide) ?_
  refine lv_iadd hx hb dL_law_347 ?_
  refine va_sld hx hb hX hbl hbA hH.2.2.2 hi2 dL_law_348 ?_
  rw [← hx2]
  refine lv_aload_n hx hb dL_law_349 rfl (lv_at hl 3 rfl) ?_
  refine kL F hH (h6_load l hI hl0 H.size ⟨va_at.lt (hH.2.2.1 0 _ rfl), hao⟩ x1 x2 e1 hk1) (vx_cwSW 4 hts qL_109 rfl rfl rfl (by decide +kernel) ⟨Nat.le_of_ble_eq_true rfl, Nat.le_of_ble_eq_true rfl⟩) rfl hl.1 rfl (Nat.le_of_ble_eq_true rfl) dL_law_350 hc (fun H locs g hg hH => ?_)
  refine lv_istore (lv' := [(5, .int (v0' 8)), (0, .ref b), (1, .ref (ad 150)), (2, .ref (bd 0)), (3, .ref o), (4, .int (nI i))]) hx hb dL_law_353 hl (by decide) rfl (fun ls hl => ?_)
  refine lv_aload_n hx hb dL_law_355 rfl (lv_at hl 3 rfl) ?_
  refine lv_aload_n hx hb dL_law_356 rfl (lv_at hl 1 rfl) ?_
  refine lv_iload hx hb dL_law_357 (lv_at hl 5 rfl) ?_
  refine lv_iconst (v := 1) hx hb dL_law_359 (by decide) ?_
  refine lv_iadd hx hb dL_law_360 ?_
  refine va_sld hx hb hX hbl hbA hH.2.2.2 hi1 dL_law_361 ?_
  rw [← hx1]
  refine lv_aload_n hx hb dL_law_362 rfl (lv_at hl 1 rfl) ?_
  refine lv_iload hx hb dL_law_363 (lv_at hl 5 rfl) ?_
  refine lv_iconst (v := 2) hx hb dL_law_365 (by decide) ?_
  refine lv_iadd hx hb dL_law_366 ?_
  refine va_sld hx hb hX hbl hbA hH.2.2.2 hi2 dL_law_367 ?_
  rw [← hx2]
  refine kM F hH (c5_load l hJ H.size x1 x2 e2) (cwV 2 hts qL_111 rfl rfl rfl (by decide +kernel) ⟨Nat.le_of_ble_eq_true rfl, Nat.le_of_ble_eq_true rfl⟩) rfl hl.1 rfl (Nat.le_of_ble_eq_true rfl) dL_law_368 ⟨by omega, by omega⟩ (fun H locs (hH : lH D Y cI cZ cL ad bd o t.2.2 g v0' v1' v2 v3' v4 v5 v6 v7 v8 s H locs) => ?_)
  refine lv_istore (lv' := [(6, .int r), (5, .int (v0' 8)), (0, .ref b), (1, .ref (ad 150)), (2, .ref (bd 0)), (3, .ref o), (4, .int (nI i))]) hx hb dL_law_371 hl (by decide) rfl (fun ls hl => ?_)
  refine lv_aload_n hx hb dL_law_373 rfl (lv_at hl 4 rfl) ?_
  refine kT F hH hl.1 rfl (Nat.le_of_ble_eq_true rfl) dL_law_374 ⟨by omega, by omega⟩ ?_
  refine lv_iload hx hb dL_law_377 (lv_at hl 1 rfl) ?_
  refine lv_icmp_eq (tgt := 384) hx hb dL_law_379 (by decide) (fun c1 => ?_) (fun c1 => absurd rfl c1)
  refine lv_iload hx hb dL_law_384 (lv_at hl 1 rfl) ?_
  refine lv_if_ne (tgt := 401) hx hb dL_law_386 (by decide) (fun c2 => ?_) (fun c2 => ?_)
  · refine lv_goto (tgt := 1637) hx hb dL_law_401 (by decide) ?_
    exact kk t.2.2 g v0' v1' v2 v3' v4 v5 v6 v7 v8 H locs ls hH hR1 (lv_sub hl [2, 3, 4, 5, 6] rfl)
  · refine lv_aload_n hx hb dL_law_389 rfl (lv_at hl 5 rfl) ?_
    refine lv_iconst (v := 0) hx hb dL_law_390 (by decide) ?_
    refine va_lald hx hb hKo hH.2.2.1 0 0 rfl rfl (vp_in_nI (n := 0) (by omega) (by omega)) dL_law_391 ?_
    refine lv_iload hx hb dL_law_392 (lv_at hl 0 rfl) ?_
    refine lv_i2l hx hb dL_law_394 rfl ?_
    refine W.lcmp hx hb dL_law_395 ?_
    refine lv_if_eq (tgt := 401) hx hb dL_law_396 (by decide) (fun c3 => ?_) (fun c3 => absurd (lg_same (show g (Int32.toNatClampNeg 0) = r.toInt64 from (hg c2).trans (by rw [hv c2]))) c3)
    refine lv_goto (tgt := 1637) hx hb dL_law_401 (by decide) ?_
    exact kk t.2.2 g v0' v1' v2 v3' v4 v5 v6 v7 v8 H locs ls hH hR1 (lv_sub hl [2, 3, 4, 5, 6] rfl)
set_option maxRecDepth 100000 in
set_option maxHeartbeats 4000000 in
theorem lc_release (F : lF D Y cI cZ cL ad bd o p l s m #[Value.ref b] c) (hX : va_X b L xs s s.heap) (hbl : b < s.heap.size) (hH : lH D Y cI cZ cL ad bd o mu f v0 v1 v2 v3 v4 v5 v6 v7 v8 s H locs) (hR : Rel mu v0 v1 v3 v4 v5 v6) (hc : cells + 3 ≤ 601024 ∧ slots + 18 ≤ 7293034) (hL : L ≤ 2048) (hi : i + 3 < L) (hl : lv_has ls 9 [(0, .ref b), (1, .ref (ad 150)), (2, .ref (bd 0)), (3, .ref o), (4, .int (nI i))]) (kk : lK D Y cI cZ cL ad bd o p l e s m below meth c b i (cells + 3) (slots + 18) Q) : W p l e room_1 s m #[Value.ref b] below meth c H locs cells slots Q (F0 m 404 ls []) := by
  obtain ⟨SF, hl0, ⟨hI, hJ, hab, hao, hbo⟩, ⟨ha0, hb0, ho0⟩, ⟨hK, hKm, hKo⟩, hz, hn0⟩ := id F
  have hx := SF.1
  have hb := SF.2.1
  have hts := SF.2.2.2.2
  have hbA : ¬ (fun q : Nat => s.heap.size ≤ q) b := Nat.not_le.mpr hbl
  have hi1 : vp_in (nI i + 1) L := by rw [show nI i + 1 = nI (i + 1) from nI_add i 1]; exact vp_in_nI (by omega) (by omega)
  obtain ⟨x1, hx1⟩ : ∃ x, x = xs (Int32.toNatClampNeg (nI i + 1)) := ⟨_, rfl⟩
  have hi2 : vp_in (nI i + 2) L := by rw [show nI i + 2 = nI (i + 2) from nI_add i 2]; exact vp_in_nI (by omega) (by omega)
  obtain ⟨x2, hx2⟩ : ∃ x, x = xs (Int32.toNatClampNeg (nI i + 2)) := ⟨_, rfl⟩
  obtain ⟨t, r, v0', v1', v3', e1, e2, hR1, hk⟩ := q_release x1 x2 hR
  have hk1 : t.1 = 0 ∧ v0' 8 = 0 ∨ t.1 = 1 ∧ v0' 8 = 1 ∨ t.1 = 2 ∧ v0' 8 = 2 := hk.imp (fun h => ⟨h.1, h.2.1⟩) id
  have hv : v0' 8 = 0 → t.2.1 = r := fun c9 => by
    rcases hk with ⟨_, _, h⟩ | ⟨_, h⟩ | ⟨_, h⟩
    · exact h
    · rw [h] at c9; exact absurd c9 (by decide)
    · rw [h] at c9; exact absurd c9 (by decide)
  refine lv_aload_n hx hb dL_law_404 rfl (lv_at hl 1 rfl) ?_
  refine lv_aload_n hx hb dL_law_405 rfl (lv_at hl 0 rfl) ?_
  refine lv_iload hx hb dL_law_406 (lv_at hl 4 rfl) ?_
  refine lv_iconst (v := 1) hx hb dL_law_408 (by decide) ?_
  refine lv_iadd hx hb dL_law_409 ?_
  refine va_sld hx hb hX hbl hbA hH.2.2.2 hi1 dL_law_410 ?_
  rw [← hx1]
  refine lv_aload_n hx hb dL_law_411 rfl (lv_at hl 0 rfl) ?_
  refine lv_iload hx hb dL_law_412 (lv_at hl 4 rfl) ?_
  refine lv_iconst (v := 2) hx hb dL_law_414 (by decide) ?_
  refine lv_iadd hx hb dL_law_415 ?_
  refine va_sld hx hb hX hbl hbA hH.2.2.2 hi2 dL_law_416 ?_
  rw [← hx2]
  refine lv_aload_n hx hb dL_law_417 rfl (lv_at hl 3 rfl) ?_
  refine kL F hH (h6_release l hI hl0 H.size ⟨va_at.lt (hH.2.2.1 0 _ rfl), hao⟩ x1 x2 e1 hk1) (vx_cwSW 4 hts qL_112 rfl rfl rfl (by decide +kernel) ⟨Nat.le_of_ble_eq_true rfl, Nat.le_of_ble_eq_true rfl⟩) rfl hl.1 rfl (Nat.le_of_ble_eq_true rfl) dL_law_418 hc (fun H locs g hg hH => ?_)
  refine lv_istore (lv' := [(5, .int (v0' 8)), (0, .ref b), (1, .ref (ad 150)), (2, .ref (bd 0)), (3, .ref o), (4, .int (nI i))]) hx hb dL_law_421 hl (by decide) rfl (fun ls hl => ?_)
  refine lv_aload_n hx hb dL_law_423 rfl (lv_at hl 3 rfl) ?_
  refine lv_aload_n hx hb dL_law_424 rfl (lv_at hl 1 rfl) ?_
  refine lv_iload hx hb dL_law_425 (lv_at hl 5 rfl) ?_
  refine lv_iconst (v := 1) hx hb dL_law_427 (by decide) ?_
  refine lv_iadd hx hb dL_law_428 ?_
  refine va_sld hx hb hX hbl hbA hH.2.2.2 hi1 dL_law_429 ?_
  rw [← hx1]
  refine lv_aload_n hx hb dL_law_430 rfl (lv_at hl 1 rfl) ?_
  refine lv_iload hx hb dL_law_431 (lv_at hl 5 rfl) ?_
  refine lv_iconst (v := 2) hx hb dL_law_433 (by decide) ?_
  refine lv_iadd hx hb dL_law_434 ?_
  refine va_sld hx hb hX hbl hbA hH.2.2.2 hi2 dL_law_435 ?_
  rw [← hx2]
  refine kM F hH (c5_release l hJ H.size x1 x2 e2) (cwV 2 hts qL_114 rfl rfl rfl (by decide +kernel) ⟨Nat.le_of_ble_eq_true rfl, Nat.le_of_ble_eq_true rfl⟩) rfl hl.1 rfl (Nat.le_of_ble_eq_true rfl) dL_law_436 ⟨by omega, by omega⟩ (fun H locs (hH : lH D Y cI cZ cL ad bd o t.2.2 g v0' v1' v2 v3' v4 v5 v6 v7 v8 s H locs) => ?_)
  refine lv_istore (lv' := [(6, .int r), (5, .int (v0' 8)), (0, .ref b), (1, .ref (ad 150)), (2, .ref (bd 0)), (3, .ref o), (4, .int (nI i))]) hx hb dL_law_439 hl (by decide) rfl (fun ls hl => ?_)
  refine lv_aload_n hx hb dL_law_441 rfl (lv_at hl 4 rfl) ?_
  refine kT F hH hl.1 rfl (Nat.le_of_ble_eq_true rfl) dL_law_442 ⟨by omega, by omega⟩ ?_
  refine lv_iload hx hb dL_law_445 (lv_at hl 1 rfl) ?_
  refine lv_icmp_eq (tgt := 452) hx hb dL_law_447 (by decide) (fun c1 => ?_) (fun c1 => absurd rfl c1)
  refine lv_iload hx hb dL_law_452 (lv_at hl 1 rfl) ?_
  refine lv_if_ne (tgt := 469) hx hb dL_law_454 (by decide) (fun c2 => ?_) (fun c2 => ?_)
  · refine lv_goto (tgt := 1637) hx hb dL_law_469 (by decide) ?_
    exact kk t.2.2 g v0' v1' v2 v3' v4 v5 v6 v7 v8 H locs ls hH hR1 (lv_sub hl [2, 3, 4, 5, 6] rfl)
  · refine lv_aload_n hx hb dL_law_457 rfl (lv_at hl 5 rfl) ?_
    refine lv_iconst (v := 0) hx hb dL_law_458 (by decide) ?_
    refine va_lald hx hb hKo hH.2.2.1 0 0 rfl rfl (vp_in_nI (n := 0) (by omega) (by omega)) dL_law_459 ?_
    refine lv_iload hx hb dL_law_460 (lv_at hl 0 rfl) ?_
    refine lv_i2l hx hb dL_law_462 rfl ?_
    refine W.lcmp hx hb dL_law_463 ?_
    refine lv_if_eq (tgt := 469) hx hb dL_law_464 (by decide) (fun c3 => ?_) (fun c3 => absurd (lg_same (show g (Int32.toNatClampNeg 0) = r.toInt64 from (hg c2).trans (by rw [hv c2]))) c3)
    refine lv_goto (tgt := 1637) hx hb dL_law_469 (by decide) ?_
    exact kk t.2.2 g v0' v1' v2 v3' v4 v5 v6 v7 v8 H locs ls hH hR1 (lv_sub hl [2, 3, 4, 5, 6] rfl)
set_option maxRecDepth 100000 in
set_option maxHeartbeats 4000000 in
theorem lc_brake (F : lF D Y cI cZ cL ad bd o p l s m #[Value.ref b] c) (hX : va_X b L xs s s.heap) (hbl : b < s.heap.size) (hH : lH D Y cI cZ cL ad bd o mu f v0 v1 v2 v3 v4 v5 v6 v7 v8 s H locs) (hR : Rel mu v0 v1 v3 v4 v5 v6) (hc : cells + 3 ≤ 601024 ∧ slots + 18 ≤ 7293034) (hL : L ≤ 2048) (hi : i + 3 < L) (hl : lv_has ls 9 [(0, .ref b), (1, .ref (ad 150)), (2, .ref (bd 0)), (3, .ref o), (4, .int (nI i))]) (kk : lK D Y cI cZ cL ad bd o p l e s m below meth c b i (cells + 3) (slots + 18) Q) : W p l e room_1 s m #[Value.ref b] below meth c H locs cells slots Q (F0 m 472 ls []) := by
  obtain ⟨SF, hl0, ⟨hI, hJ, hab, hao, hbo⟩, ⟨ha0, hb0, ho0⟩, ⟨hK, hKm, hKo⟩, hz, hn0⟩ := id F
  have hx := SF.1
  have hb := SF.2.1
  have hts := SF.2.2.2.2
  have hbA : ¬ (fun q : Nat => s.heap.size ≤ q) b := Nat.not_le.mpr hbl
  have hi1 : vp_in (nI i + 1) L := by rw [show nI i + 1 = nI (i + 1) from nI_add i 1]; exact vp_in_nI (by omega) (by omega)
  obtain ⟨x1, hx1⟩ : ∃ x, x = xs (Int32.toNatClampNeg (nI i + 1)) := ⟨_, rfl⟩
  have hi2 : vp_in (nI i + 2) L := by rw [show nI i + 2 = nI (i + 2) from nI_add i 2]; exact vp_in_nI (by omega) (by omega)
  obtain ⟨x2, hx2⟩ : ∃ x, x = xs (Int32.toNatClampNeg (nI i + 2)) := ⟨_, rfl⟩
  obtain ⟨t, r, v0', v1', v3', e1, e2, hR1, hk⟩ := q_brake x1 x2 hR
  have hk1 : t.1 = 0 ∧ v0' 8 = 0 ∨ t.1 = 1 ∧ v0' 8 = 1 ∨ t.1 = 2 ∧ v0' 8 = 2 ∨ t.1 = 3 ∧ v0' 8 = 3 := hk.imp (fun h => ⟨h.1, h.2.1⟩) id
  have hv : v0' 8 = 0 → t.2.1 = r := fun c9 => by
    rcases hk with ⟨_, _, h⟩ | ⟨_, h⟩ | ⟨_, h⟩ | ⟨_, h⟩
    · exact h
    · rw [h] at c9; exact absurd c9 (by decide)
    · rw [h] at c9; exact absurd c9 (by decide)
    · rw [h] at c9; exact absurd c9 (by decide)
  refine lv_aload_n hx hb dL_law_472 rfl (lv_at hl 1 rfl) ?_
  refine lv_aload_n hx hb dL_law_473 rfl (lv_at hl 0 rfl) ?_
  refine lv_iload hx hb dL_law_474 (lv_at hl 4 rfl) ?_
  refine lv_iconst (v := 1) hx hb dL_law_476 (by decide) ?_
  refine lv_iadd hx hb dL_law_477 ?_
  refine va_sld hx hb hX hbl hbA hH.2.2.2 hi1 dL_law_478 ?_
  rw [← hx1]
  refine lv_aload_n hx hb dL_law_479 rfl (lv_at hl 0 rfl) ?_
  refine lv_iload hx hb dL_law_480 (lv_at hl 4 rfl) ?_
  refine lv_iconst (v := 2) hx hb dL_law_482 (by decide) ?_
  refine lv_iadd hx hb dL_law_483 ?_
  refine va_sld hx hb hX hbl hbA hH.2.2.2 hi2 dL_law_484 ?_
  rw [← hx2]
  refine lv_aload_n hx hb dL_law_485 rfl (lv_at hl 3 rfl) ?_
  refine kL F hH (h6_brake l hI hl0 H.size ⟨va_at.lt (hH.2.2.1 0 _ rfl), hao⟩ x1 x2 e1 hk1) (vx_cwSW 4 hts qL_115 rfl rfl rfl (by decide +kernel) ⟨Nat.le_of_ble_eq_true rfl, Nat.le_of_ble_eq_true rfl⟩) rfl hl.1 rfl (Nat.le_of_ble_eq_true rfl) dL_law_486 hc (fun H locs g hg hH => ?_)
  refine lv_istore (lv' := [(5, .int (v0' 8)), (0, .ref b), (1, .ref (ad 150)), (2, .ref (bd 0)), (3, .ref o), (4, .int (nI i))]) hx hb dL_law_489 hl (by decide) rfl (fun ls hl => ?_)
  refine lv_aload_n hx hb dL_law_491 rfl (lv_at hl 3 rfl) ?_
  refine lv_aload_n hx hb dL_law_492 rfl (lv_at hl 1 rfl) ?_
  refine lv_iload hx hb dL_law_493 (lv_at hl 5 rfl) ?_
  refine lv_iconst (v := 1) hx hb dL_law_495 (by decide) ?_
  refine lv_iadd hx hb dL_law_496 ?_
  refine va_sld hx hb hX hbl hbA hH.2.2.2 hi1 dL_law_497 ?_
  rw [← hx1]
  refine lv_aload_n hx hb dL_law_498 rfl (lv_at hl 1 rfl) ?_
  refine lv_iload hx hb dL_law_499 (lv_at hl 5 rfl) ?_
  refine lv_iconst (v := 2) hx hb dL_law_501 (by decide) ?_
  refine lv_iadd hx hb dL_law_502 ?_
  refine va_sld hx hb hX hbl hbA hH.2.2.2 hi2 dL_law_503 ?_
  rw [← hx2]
  refine kM F hH (c5_brake l hJ H.size x1 x2 e2) (cwV 2 hts qL_117 rfl rfl rfl (by decide +kernel) ⟨Nat.le_of_ble_eq_true rfl, Nat.le_of_ble_eq_true rfl⟩) rfl hl.1 rfl (Nat.le_of_ble_eq_true rfl) dL_law_504 ⟨by omega, by omega⟩ (fun H locs (hH : lH D Y cI cZ cL ad bd o t.2.2 g v0' v1' v2 v3' v4 v5 v6 v7 v8 s H locs) => ?_)
  refine lv_istore (lv' := [(6, .int r), (5, .int (v0' 8)), (0, .ref b), (1, .ref (ad 150)), (2, .ref (bd 0)), (3, .ref o), (4, .int (nI i))]) hx hb dL_law_507 hl (by decide) rfl (fun ls hl => ?_)
  refine lv_aload_n hx hb dL_law_509 rfl (lv_at hl 4 rfl) ?_
  refine kT F hH hl.1 rfl (Nat.le_of_ble_eq_true rfl) dL_law_510 ⟨by omega, by omega⟩ ?_
  refine lv_iload hx hb dL_law_513 (lv_at hl 1 rfl) ?_
  refine lv_icmp_eq (tgt := 520) hx hb dL_law_515 (by decide) (fun c1 => ?_) (fun c1 => absurd rfl c1)
  refine lv_iload hx hb dL_law_520 (lv_at hl 1 rfl) ?_
  refine lv_if_ne (tgt := 537) hx hb dL_law_522 (by decide) (fun c2 => ?_) (fun c2 => ?_)
  · refine lv_goto (tgt := 1637) hx hb dL_law_537 (by decide) ?_
    exact kk t.2.2 g v0' v1' v2 v3' v4 v5 v6 v7 v8 H locs ls hH hR1 (lv_sub hl [2, 3, 4, 5, 6] rfl)
  · refine lv_aload_n hx hb dL_law_525 rfl (lv_at hl 5 rfl) ?_
    refine lv_iconst (v := 0) hx hb dL_law_526 (by decide) ?_
    refine va_lald hx hb hKo hH.2.2.1 0 0 rfl rfl (vp_in_nI (n := 0) (by omega) (by omega)) dL_law_527 ?_
    refine lv_iload hx hb dL_law_528 (lv_at hl 0 rfl) ?_
    refine lv_i2l hx hb dL_law_530 rfl ?_
    refine W.lcmp hx hb dL_law_531 ?_
    refine lv_if_eq (tgt := 537) hx hb dL_law_532 (by decide) (fun c3 => ?_) (fun c3 => absurd (lg_same (show g (Int32.toNatClampNeg 0) = r.toInt64 from (hg c2).trans (by rw [hv c2]))) c3)
    refine lv_goto (tgt := 1637) hx hb dL_law_537 (by decide) ?_
    exact kk t.2.2 g v0' v1' v2 v3' v4 v5 v6 v7 v8 H locs ls hH hR1 (lv_sub hl [2, 3, 4, 5, 6] rfl)
set_option maxRecDepth 100000 in
set_option maxHeartbeats 4000000 in
theorem lc_pull (F : lF D Y cI cZ cL ad bd o p l s m #[Value.ref b] c) (hX : va_X b L xs s s.heap) (hbl : b < s.heap.size) (hH : lH D Y cI cZ cL ad bd o mu f v0 v1 v2 v3 v4 v5 v6 v7 v8 s H locs) (hR : Rel mu v0 v1 v3 v4 v5 v6) (hc : cells + 3 ≤ 601024 ∧ slots + 18 ≤ 7293034) (hL : L ≤ 2048) (hi : i + 3 < L) (hl : lv_has ls 9 [(0, .ref b), (1, .ref (ad 150)), (2, .ref (bd 0)), (3, .ref o), (4, .int (nI i))]) (kk : lK D Y cI cZ cL ad bd o p l e s m below meth c b i (cells + 3) (slots + 18) Q) : W p l e room_1 s m #[Value.ref b] below meth c H locs cells slots Q (F0 m 540 ls []) := by
  obtain ⟨SF, hl0, ⟨hI, hJ, hab, hao, hbo⟩, ⟨ha0, hb0, ho0⟩, ⟨hK, hKm, hKo⟩, hz, hn0⟩ := id F
  have hx := SF.1
  have hb := SF.2.1
  have hts := SF.2.2.2.2
  have hbA : ¬ (fun q : Nat => s.heap.size ≤ q) b := Nat.not_le.mpr hbl
  have hi1 : vp_in (nI i + 1) L := by rw [show nI i + 1 = nI (i + 1) from nI_add i 1]; exact vp_in_nI (by omega) (by omega)
  obtain ⟨x1, hx1⟩ : ∃ x, x = xs (Int32.toNatClampNeg (nI i + 1)) := ⟨_, rfl⟩
  obtain ⟨t, r, v0', v1', v3', e1, e2, hR1, hk⟩ := q_pull x1 hR
  have hk1 : t.1 = 0 ∧ v0' 8 = 0 ∨ t.1 = 1 ∧ v0' 8 = 1 := hk.imp (fun h => ⟨h.1, h.2.1⟩) id
  have hv : v0' 8 = 0 → t.2.1 = r := fun c9 => by
    rcases hk with ⟨_, _, h⟩ | ⟨_, h⟩
    · exact h
    · rw [h] at c9; exact absurd c9 (by decide)
  refine lv_aload_n hx hb dL_law_540 rfl (lv_at hl 1 rfl) ?_
  refine lv_aload_n hx hb dL_law_541 rfl (lv_at hl 0 rfl) ?_
  refine lv_iload hx hb dL_law_542 (lv_at hl 4 rfl) ?_
  refine lv_iconst (v := 1) hx hb dL_law_544 (by decide) ?_
  refine lv_iadd hx hb dL_law_545 ?_
  refine va_sld hx hb hX hbl hbA hH.2.2.2 hi1 dL_law_546 ?_
  rw [← hx1]
  refine lv_aload_n hx hb dL_law_547 rfl (lv_at hl 3 rfl) ?_
  refine kL F hH (h6_pull l hI hl0 H.size ⟨va_at.lt (hH.2.2.1 0 _ rfl), hao⟩ x1 e1 hk1) (vx_cwSW 3 hts qL_118 rfl rfl rfl (by decide +kernel) ⟨Nat.le_of_ble_eq_true rfl, Nat.le_of_ble_eq_true rfl⟩) rfl hl.1 rfl (Nat.le_of_ble_eq_true rfl) dL_law_548 hc (fun H locs g hg hH => ?_)
  refine lv_istore (lv' := [(5, .int (v0' 8)), (0, .ref b), (1, .ref (ad 150)), (2, .ref (bd 0)), (3, .ref o), (4, .int (nI i))]) hx hb dL_law_551 hl (by decide) rfl (fun ls hl => ?_)
  refine lv_aload_n hx hb dL_law_553 rfl (lv_at hl 3 rfl) ?_
  refine lv_aload_n hx hb dL_law_554 rfl (lv_at hl 1 rfl) ?_
  refine lv_iload hx hb dL_law_555 (lv_at hl 5 rfl) ?_
  refine lv_iconst (v := 1) hx hb dL_law_557 (by decide) ?_
  refine lv_iadd hx hb dL_law_558 ?_
  refine va_sld hx hb hX hbl hbA hH.2.2.2 hi1 dL_law_559 ?_
  rw [← hx1]
  refine kM F hH (c5_pull l hJ H.size x1 e2) (cwV 1 hts qL_121 rfl rfl rfl (by decide +kernel) ⟨Nat.le_of_ble_eq_true rfl, Nat.le_of_ble_eq_true rfl⟩) rfl hl.1 rfl (Nat.le_of_ble_eq_true rfl) dL_law_560 ⟨by omega, by omega⟩ (fun H locs (hH : lH D Y cI cZ cL ad bd o t.2.2 g v0' v1' v2 v3' v4 v5 v6 v7 v8 s H locs) => ?_)
  refine lv_istore (lv' := [(6, .int r), (5, .int (v0' 8)), (0, .ref b), (1, .ref (ad 150)), (2, .ref (bd 0)), (3, .ref o), (4, .int (nI i))]) hx hb dL_law_563 hl (by decide) rfl (fun ls hl => ?_)
  refine lv_aload_n hx hb dL_law_565 rfl (lv_at hl 4 rfl) ?_
  refine kT F hH hl.1 rfl (Nat.le_of_ble_eq_true rfl) dL_law_566 ⟨by omega, by omega⟩ ?_
  refine lv_iload hx hb dL_law_569 (lv_at hl 1 rfl) ?_
  refine lv_icmp_eq (tgt := 576) hx hb dL_law_571 (by decide) (fun c1 => ?_) (fun c1 => absurd rfl c1)
  refine lv_iload hx hb dL_law_576 (lv_at hl 1 rfl) ?_
  refine lv_if_ne (tgt := 593) hx hb dL_law_578 (by decide) (fun c2 => ?_) (fun c2 => ?_)
  · refine lv_goto (tgt := 1637) hx hb dL_law_593 (by decide) ?_
    exact kk t.2.2 g v0' v1' v2 v3' v4 v5 v6 v7 v8 H locs ls hH hR1 (lv_sub hl [2, 3, 4, 5, 6] rfl)
  · refine lv_aload_n hx hb dL_law_581 rfl (lv_at hl 5 rfl) ?_
    refine lv_iconst (v := 0) hx hb dL_law_582 (by decide) ?_
    refine va_lald hx hb hKo hH.2.2.1 0 0 rfl rfl (vp_in_nI (n := 0) (by omega) (by omega)) dL_law_583 ?_
    refine lv_iload hx hb dL_law_584 (lv_at hl 0 rfl) ?_
    refine lv_i2l hx hb dL_law_586 rfl ?_
    refine W.lcmp hx hb dL_law_587 ?_
    refine lv_if_eq (tgt := 593) hx hb dL_law_588 (by decide) (fun c3 => ?_) (fun c3 => absurd (lg_same (show g (Int32.toNatClampNeg 0) = r.toInt64 from (hg c2).trans (by rw [hv c2]))) c3)
    refine lv_goto (tgt := 1637) hx hb dL_law_593 (by decide) ?_
    exact kk t.2.2 g v0' v1' v2 v3' v4 v5 v6 v7 v8 H locs ls hH hR1 (lv_sub hl [2, 3, 4, 5, 6] rfl)
set_option maxRecDepth 100000 in
set_option maxHeartbeats 4000000 in
theorem lc_set (F : lF D Y cI cZ cL ad bd o p l s m #[Value.ref b] c) (hX : va_X b L xs s s.heap) (hbl : b < s.heap.size) (hH : lH D Y cI cZ cL ad bd o mu f v0 v1 v2 v3 v4 v5 v6 v7 v8 s H locs) (hR : Rel mu v0 v1 v3 v4 v5 v6) (hc : cells + 3 ≤ 601024 ∧ slots + 18 ≤ 7293034) (hL : L ≤ 2048) (hi : i + 3 < L) (hl : lv_has ls 9 [(0, .ref b), (1, .ref (ad 150)), (2, .ref (bd 0)), (3, .ref o), (4, .int (nI i))]) (kk : lK D Y cI cZ cL ad bd o p l e s m below meth c b i (cells + 3) (slots + 18) Q) : W p l e room_1 s m #[Value.ref b] below meth c H locs cells slots Q (F0 m 596 ls []) := by
  obtain ⟨SF, hl0, ⟨hI, hJ, hab, hao, hbo⟩, ⟨ha0, hb0, ho0⟩, ⟨hK, hKm, hKo⟩, hz, hn0⟩ := id F
  have hx := SF.1
  have hb := SF.2.1
  have hts := SF.2.2.2.2
  have hbA : ¬ (fun q : Nat => s.heap.size ≤ q) b := Nat.not_le.mpr hbl
  have hi1 : vp_in (nI i + 1) L := by rw [show nI i + 1 = nI (i + 1) from nI_add i 1]; exact vp_in_nI (by omega) (by omega)
  obtain ⟨x1, hx1⟩ : ∃ x, x = xs (Int32.toNatClampNeg (nI i + 1)) := ⟨_, rfl⟩
  have hi2 : vp_in (nI i + 2) L := by rw [show nI i + 2 = nI (i + 2) from nI_add i 2]; exact vp_in_nI (by omega) (by omega)
  obtain ⟨x2, hx2⟩ : ∃ x, x = xs (Int32.toNatClampNeg (nI i + 2)) := ⟨_, rfl⟩
  obtain ⟨t, r, v0', v1', v3', e1, e2, hR1, hk⟩ := q_set x1 x2 hR
  have hk1 : t.1 = 0 ∧ v0' 8 = 0 ∨ t.1 = 1 ∧ v0' 8 = 1 ∨ t.1 = 2 ∧ v0' 8 = 2 := hk.imp (fun h => ⟨h.1, h.2.1⟩) id
  have hv : v0' 8 = 0 → t.2.1 = r := fun c9 => by
    rcases hk with ⟨_, _, h⟩ | ⟨_, h⟩ | ⟨_, h⟩
    · exact h
    · rw [h] at c9; exact absurd c9 (by decide)
    · rw [h] at c9; exact absurd c9 (by decide)
  refine lv_aload_n hx hb dL_law_596 rfl (lv_at hl 1 rfl) ?_
  refine lv_aload_n hx hb dL_law_597 rfl (lv_at hl 0 rfl) ?_
  refine lv_iload hx hb dL_law_598 (lv_at hl 4 rfl) ?_
  refine lv_iconst (v := 1) hx hb dL_law_600 (by decide) ?_
  refine lv_iadd hx hb dL_law_601 ?_
  refine va_sld hx hb hX hbl hbA hH.2.2.2 hi1 dL_law_602 ?_
  rw [← hx1]
  refine lv_aload_n hx hb dL_law_603 rfl (lv_at hl 0 rfl) ?_
  refine lv_iload hx hb dL_law_604 (lv_at hl 4 rfl) ?_
  refine lv_iconst (v := 2) hx hb dL_law_606 (by decide) ?_
  refine lv_iadd hx hb dL_law_607 ?_
  refine va_sld hx hb hX hbl hbA hH.2.2.2 hi2 dL_law_608 ?_
  rw [← hx2]
  refine lv_aload_n hx hb dL_law_609 rfl (lv_at hl 3 rfl) ?_
  refine kL F hH (h6_set l hI hl0 H.size ⟨va_at.lt (hH.2.2.1 0 _ rfl), hao⟩ x1 x2 e1 hk1) (vx_cwSW 4 hts qL_122 rfl rfl rfl (by decide +kernel) ⟨Nat.le_of_ble_eq_true rfl, Nat.le_of_ble_eq_true rfl⟩) rfl hl.1 rfl (Nat.le_of_ble_eq_true rfl) dL_law_610 hc (fun H locs g hg hH => ?_)
  refine lv_istore (lv' := [(5, .int (v0' 8)), (0, .ref b), (1, .ref (ad 150)), (2, .ref (bd 0)), (3, .ref o), (4, .int (nI i))]) hx hb dL_law_613 hl (by decide) rfl (fun ls hl => ?_)
  refine lv_aload_n hx hb dL_law_615 rfl (lv_at hl 3 rfl) ?_
  refine lv_aload_n hx hb dL_law_616 rfl (lv_at hl 1 rfl) ?_
  refine lv_iload hx hb dL_law_617 (lv_at hl 5 rfl) ?_
  refine lv_iconst (v := 1) hx hb dL_law_619 (by decide) ?_
  refine lv_iadd hx hb dL_law_620 ?_
  refine va_sld hx hb hX hbl hbA hH.2.2.2 hi1 dL_law_621 ?_
  rw [← hx1]
  refine lv_aload_n hx hb dL_law_622 rfl (lv_at hl 1 rfl) ?_
  refine lv_iload hx hb dL_law_623 (lv_at hl 5 rfl) ?_
  refine lv_iconst (v := 2) hx hb dL_law_625 (by decide) ?_
  refine lv_iadd hx hb dL_law_626 ?_
  refine va_sld hx hb hX hbl hbA hH.2.2.2 hi2 dL_law_627 ?_
  rw [← hx2]
  refine kM F hH (c5_set l hJ H.size x1 x2 e2) (cwV 2 hts qL_124 rfl rfl rfl (by decide +kernel) ⟨Nat.le_of_ble_eq_true rfl, Nat.le_of_ble_eq_true rfl⟩) rfl hl.1 rfl (Nat.le_of_ble_eq_true rfl) dL_law_628 ⟨by omega, by omega⟩ (fun H locs (hH : lH D Y cI cZ cL ad bd o t.2.2 g v0' v1' v2 v3' v4 v5 v6 v7 v8 s H locs) => ?_)
  refine lv_istore (lv' := [(6, .int r), (5, .int (v0' 8)), (0, .ref b), (1, .ref (ad 150)), (2, .ref (bd 0)), (3, .ref o), (4, .int (nI i))]) hx hb dL_law_631 hl (by decide) rfl (fun ls hl => ?_)
  refine lv_aload_n hx hb dL_law_633 rfl (lv_at hl 4 rfl) ?_
  refine kT F hH hl.1 rfl (Nat.le_of_ble_eq_true rfl) dL_law_634 ⟨by omega, by omega⟩ ?_
  refine lv_iload hx hb dL_law_637 (lv_at hl 1 rfl) ?_
  refine lv_icmp_eq (tgt := 644) hx hb dL_law_639 (by decide) (fun c1 => ?_) (fun c1 => absurd rfl c1)
  refine lv_iload hx hb dL_law_644 (lv_at hl 1 rfl) ?_
  refine lv_if_ne (tgt := 661) hx hb dL_law_646 (by decide) (fun c2 => ?_) (fun c2 => ?_)
  · refine lv_goto (tgt := 1637) hx hb dL_law_661 (by decide) ?_
    exact kk t.2.2 g v0' v1' v2 v3' v4 v5 v6 v7 v8 H locs ls hH hR1 (lv_sub hl [2, 3, 4, 5, 6] rfl)
  · refine lv_aload_n hx hb dL_law_649 rfl (lv_at hl 5 rfl) ?_
    refine lv_iconst (v := 0) hx hb dL_law_650 (by decide) ?_
    refine va_lald hx hb hKo hH.2.2.1 0 0 rfl rfl (vp_in_nI (n := 0) (by omega) (by omega)) dL_law_651 ?_
    refine lv_iload hx hb dL_law_652 (lv_at hl 0 rfl) ?_
    refine lv_i2l hx hb dL_law_654 rfl ?_
    refine W.lcmp hx hb dL_law_655 ?_
    refine lv_if_eq (tgt := 661) hx hb dL_law_656 (by decide) (fun c3 => ?_) (fun c3 => absurd (lg_same (show g (Int32.toNatClampNeg 0) = r.toInt64 from (hg c2).trans (by rw [hv c2]))) c3)
    refine lv_goto (tgt := 1637) hx hb dL_law_661 (by decide) ?_
    exact kk t.2.2 g v0' v1' v2 v3' v4 v5 v6 v7 v8 H locs ls hH hR1 (lv_sub hl [2, 3, 4, 5, 6] rfl)
set_option maxRecDepth 100000 in
set_option maxHeartbeats 4000000 in
theorem lc_run (F : lF D Y cI cZ cL ad bd o p l s m #[Value.ref b] c) (hX : va_X b L xs s s.heap) (hbl : b < s.heap.size) (hH : lH D Y cI cZ cL ad bd o mu f v0 v1 v2 v3 v4 v5 v6 v7 v8 s H locs) (hR : Rel mu v0 v1 v3 v4 v5 v6) (hc : cells + 3 ≤ 601024 ∧ slots + 18 ≤ 7293034) (hL : L ≤ 2048) (hi : i + 3 < L) (hl : lv_has ls 9 [(0, .ref b), (1, .ref (ad 150)), (2, .ref (bd 0)), (3, .ref o), (4, .int (nI i))]) (kk : lK D Y cI cZ cL ad bd o p l e s m below meth c b i (cells + 3) (slots + 18) Q) : W p l e room_1 s m #[Value.ref b] below meth c H locs cells slots Q (F0 m 664 ls []) := by
  obtain ⟨SF, hl0, ⟨hI, hJ, hab, hao, hbo⟩, ⟨ha0, hb0, ho0⟩, ⟨hK, hKm, hKo⟩, hz, hn0⟩ := id F
  have hx := SF.1
  have hb := SF.2.1
  have hts := SF.2.2.2.2
  have hbA : ¬ (fun q : Nat => s.heap.size ≤ q) b := Nat.not_le.mpr hbl
  have hi1 : vp_in (nI i + 1) L := by rw [show nI i + 1 = nI (i + 1) from nI_add i 1]; exact vp_in_nI (by omega) (by omega)
  obtain ⟨x1, hx1⟩ : ∃ x, x = xs (Int32.toNatClampNeg (nI i + 1)) := ⟨_, rfl⟩
  obtain ⟨t, r, v0', v1', v3', v7', v8', e1, e2, hR1, hk⟩ := q_run (v7 := v7) (v8 := v8) x1 hR
  have hk1 : t.1 = 0 ∧ v0' 8 = 0 ∨ t.1 = 2 ∧ v0' 8 = 1 := hk.imp (fun h => ⟨h.1, h.2.1⟩) id
  have hv : v0' 8 = 0 → t.2.1 = r := fun c9 => by
    rcases hk with ⟨_, _, h⟩ | ⟨_, h⟩
    · exact h
    · rw [h] at c9; exact absurd c9 (by decide)
  refine lv_aload_n hx hb dL_law_664 rfl (lv_at hl 1 rfl) ?_
  refine lv_aload_n hx hb dL_law_665 rfl (lv_at hl 0 rfl) ?_
  refine lv_iload hx hb dL_law_666 (lv_at hl 4 rfl) ?_
  refine lv_iconst (v := 1) hx hb dL_law_668 (by decide) ?_
  refine lv_iadd hx hb dL_law_669 ?_
  refine va_sld hx hb hX hbl hbA hH.2.2.2 hi1 dL_law_670 ?_
  rw [← hx1]
  refine lv_aload_n hx hb dL_law_671 rfl (lv_at hl 3 rfl) ?_
  refine kL F hH (h6_run l hI hl0 H.size ⟨va_at.lt (hH.2.2.1 0 _ rfl), hao⟩ x1 e1 hk1) (vx_cwSW 3 hts qL_125 rfl rfl rfl (by decide +kernel) ⟨Nat.le_of_ble_eq_true rfl, Nat.le_of_ble_eq_true rfl⟩) rfl hl.1 rfl (Nat.le_of_ble_eq_true rfl) dL_law_672 hc (fun H locs g hg hH => ?_)
  refine lv_istore (lv' := [(5, .int (v0' 8)), (0, .ref b), (1, .ref (ad 150)), (2, .ref (bd 0)), (3, .ref o), (4, .int (nI i))]) hx hb dL_law_675 hl (by decide) rfl (fun ls hl => ?_)
  refine lv_aload_n hx hb dL_law_677 rfl (lv_at hl 3 rfl) ?_
  refine lv_aload_n hx hb dL_law_678 rfl (lv_at hl 1 rfl) ?_
  refine lv_iload hx hb dL_law_679 (lv_at hl 5 rfl) ?_
  refine lv_iconst (v := 1) hx hb dL_law_681 (by decide) ?_
  refine lv_iadd hx hb dL_law_682 ?_
  refine va_sld hx hb hX hbl hbA hH.2.2.2 hi1 dL_law_683 ?_
  rw [← hx1]
  refine kM F hH (c5_run l hJ H.size x1 e2) (cwV 1 hts qL_127 rfl rfl rfl (by decide +kernel) ⟨Nat.le_of_ble_eq_true rfl, Nat.le_of_ble_eq_true rfl⟩) rfl hl.1 rfl (Nat.le_of_ble_eq_true rfl) dL_law_684 ⟨by omega, by omega⟩ (fun H locs (hH : lH D Y cI cZ cL ad bd o t.2.2 g v0' v1' v2 v3' v4 v5 v6 v7' v8' s H locs) => ?_)
  refine lv_istore (lv' := [(6, .int r), (5, .int (v0' 8)), (0, .ref b), (1, .ref (ad 150)), (2, .ref (bd 0)), (3, .ref o), (4, .int (nI i))]) hx hb dL_law_687 hl (by decide) rfl (fun ls hl => ?_)
  refine lv_aload_n hx hb dL_law_689 rfl (lv_at hl 4 rfl) ?_
  refine kT F hH hl.1 rfl (Nat.le_of_ble_eq_true rfl) dL_law_690 ⟨by omega, by omega⟩ ?_
  refine lv_iload hx hb dL_law_693 (lv_at hl 1 rfl) ?_
  refine lv_icmp_eq (tgt := 700) hx hb dL_law_695 (by decide) (fun c1 => ?_) (fun c1 => absurd rfl c1)
  refine lv_iload hx hb dL_law_700 (lv_at hl 1 rfl) ?_
  refine lv_if_ne (tgt := 717) hx hb dL_law_702 (by decide) (fun c2 => ?_) (fun c2 => ?_)
  · refine lv_goto (tgt := 1637) hx hb dL_law_717 (by decide) ?_
    exact kk t.2.2 g v0' v1' v2 v3' v4 v5 v6 v7' v8' H locs ls hH hR1 (lv_sub hl [2, 3, 4, 5, 6] rfl)
  · refine lv_aload_n hx hb dL_law_705 rfl (lv_at hl 5 rfl) ?_
    refine lv_iconst (v := 0) hx hb dL_law_706 (by decide) ?_
    refine va_lald hx hb hKo hH.2.2.1 0 0 rfl rfl (vp_in_nI (n := 0) (by omega) (by omega)) dL_law_707 ?_
    refine lv_iload hx hb dL_law_708 (lv_at hl 0 rfl) ?_
    refine lv_i2l hx hb dL_law_710 rfl ?_
    refine W.lcmp hx hb dL_law_711 ?_
    refine lv_if_eq (tgt := 717) hx hb dL_law_712 (by decide) (fun c3 => ?_) (fun c3 => absurd (lg_same (show g (Int32.toNatClampNeg 0) = r.toInt64 from (hg c2).trans (by rw [hv c2]))) c3)
    refine lv_goto (tgt := 1637) hx hb dL_law_717 (by decide) ?_
    exact kk t.2.2 g v0' v1' v2 v3' v4 v5 v6 v7' v8' H locs ls hH hR1 (lv_sub hl [2, 3, 4, 5, 6] rfl)
set_option maxRecDepth 100000 in
set_option maxHeartbeats 4000000 in
theorem lc_append (F : lF D Y cI cZ cL ad bd o p l s m #[Value.ref b] c) (hX : va_X b L xs s s.heap) (hbl : b < s.heap.size) (hH : lH D Y cI cZ cL ad bd o mu f v0 v1 v2 v3 v4 v5 v6 v7 v8 s H locs) (hR : Rel mu v0 v1 v3 v4 v5 v6) (hc : cells + 3 ≤ 601024 ∧ slots + 18 ≤ 7293034) (hL : L ≤ 2048) (hi : i + 3 < L) (hl : lv_has ls 9 [(0, .ref b), (1, .ref (ad 150)), (2, .ref (bd 0)), (3, .ref o), (4, .int (nI i))]) (kk : lK D Y cI cZ cL ad bd o p l e s m below meth c b i (cells + 3) (slots + 18) Q) : W p l e room_1 s m #[Value.ref b] below meth c H locs cells slots Q (F0 m 720 ls []) := by
  obtain ⟨SF, hl0, ⟨hI, hJ, hab, hao, hbo⟩, ⟨ha0, hb0, ho0⟩, ⟨hK, hKm, hKo⟩, hz, hn0⟩ := id F
  have hx := SF.1
  have hb := SF.2.1
  have hts := SF.2.2.2.2
  have hbA : ¬ (fun q : Nat => s.heap.size ≤ q) b := Nat.not_le.mpr hbl
  have hi1 : vp_in (nI i + 1) L := by rw [show nI i + 1 = nI (i + 1) from nI_add i 1]; exact vp_in_nI (by omega) (by omega)
  obtain ⟨x1, hx1⟩ : ∃ x, x = xs (Int32.toNatClampNeg (nI i + 1)) := ⟨_, rfl⟩
  obtain ⟨t, r, v0', v6', e1, e2, hR1, hk⟩ := q_append x1 hR
  have hk1 : t.1 = 0 ∧ v0' 8 = 0 ∨ t.1 = 2 ∧ v0' 8 = 1 ∨ t.1 = 3 ∧ v0' 8 = 2 := hk.imp (fun h => ⟨h.1, h.2.1⟩) id
  have hv : v0' 8 = 0 → t.2.1 = r := fun c9 => by
    rcases hk with ⟨_, _, h⟩ | ⟨_, h⟩ | ⟨_, h⟩
    · exact h
    · rw [h] at c9; exact absurd c9 (by decide)
    · rw [h] at c9; exact absurd c9 (by decide)
  refine lv_aload_n hx hb dL_law_720 rfl (lv_at hl 1 rfl) ?_
  refine lv_aload_n hx hb dL_law_721 rfl (lv_at hl 0 rfl) ?_
  refine lv_iload hx hb dL_law_722 (lv_at hl 4 rfl) ?_
  refine lv_iconst (v := 1) hx hb dL_law_724 (by decide) ?_
  refine lv_iadd hx hb dL_law_725 ?_
  refine va_sld hx hb hX hbl hbA hH.2.2.2 hi1 dL_law_726 ?_
  rw [← hx1]
  refine lv_aload_n hx hb dL_law_727 rfl (lv_at hl 3 rfl) ?_
  refine kL F hH (h6_append l hI hl0 H.size ⟨va_at.lt (hH.2.2.1 0 _ rfl), hao⟩ x1 e1 hk1) (vx_cwSW 3 hts qL_128 rfl rfl rfl (by decide +kernel) ⟨Nat.le_of_ble_eq_true rfl, Nat.le_of_ble_eq_true rfl⟩) rfl hl.1 rfl (Nat.le_of_ble_eq_true rfl) dL_law_728 hc (fun H locs g hg hH => ?_)
  refine lv_istore (lv' := [(5, .int (v0' 8)), (0, .ref b), (1, .ref (ad 150)), (2, .ref (bd 0)), (3, .ref o), (4, .int (nI i))]) hx hb dL_law_731 hl (by decide) rfl (fun ls hl => ?_)
  refine lv_aload_n hx hb dL_law_733 rfl (lv_at hl 3 rfl) ?_
  refine lv_aload_n hx hb dL_law_734 rfl (lv_at hl 1 rfl) ?_
  refine lv_iload hx hb dL_law_735 (lv_at hl 5 rfl) ?_
  refine lv_iconst (v := 1) hx hb dL_law_737 (by decide) ?_
  refine lv_iadd hx hb dL_law_738 ?_
  refine va_sld hx hb hX hbl hbA hH.2.2.2 hi1 dL_law_739 ?_
  rw [← hx1]
  refine kM F hH (c5_append l hJ H.size x1 e2) (cwV 1 hts qL_130 rfl rfl rfl (by decide +kernel) ⟨Nat.le_of_ble_eq_true rfl, Nat.le_of_ble_eq_true rfl⟩) rfl hl.1 rfl (Nat.le_of_ble_eq_true rfl) dL_law_740 ⟨by omega, by omega⟩ (fun H locs (hH : lH D Y cI cZ cL ad bd o t.2.2 g v0' v1 v2 v3 v4 v5 v6' v7 v8 s H locs) => ?_)
  refine lv_istore (lv' := [(6, .int r), (5, .int (v0' 8)), (0, .ref b), (1, .ref (ad 150)), (2, .ref (bd 0)), (3, .ref o), (4, .int (nI i))]) hx hb dL_law_743 hl (by decide) rfl (fun ls hl => ?_)
  refine lv_aload_n hx hb dL_law_745 rfl (lv_at hl 4 rfl) ?_
  refine kT F hH hl.1 rfl (Nat.le_of_ble_eq_true rfl) dL_law_746 ⟨by omega, by omega⟩ ?_
  refine lv_iload hx hb dL_law_749 (lv_at hl 1 rfl) ?_
  refine lv_icmp_eq (tgt := 756) hx hb dL_law_751 (by decide) (fun c1 => ?_) (fun c1 => absurd rfl c1)
  refine lv_iload hx hb dL_law_756 (lv_at hl 1 rfl) ?_
  refine lv_if_ne (tgt := 773) hx hb dL_law_758 (by decide) (fun c2 => ?_) (fun c2 => ?_)
  · refine lv_goto (tgt := 1637) hx hb dL_law_773 (by decide) ?_
    exact kk t.2.2 g v0' v1 v2 v3 v4 v5 v6' v7 v8 H locs ls hH hR1 (lv_sub hl [2, 3, 4, 5, 6] rfl)
  · refine lv_aload_n hx hb dL_law_761 rfl (lv_at hl 5 rfl) ?_
    refine lv_iconst (v := 0) hx hb dL_law_762 (by decide) ?_
    refine va_lald hx hb hKo hH.2.2.1 0 0 rfl rfl (vp_in_nI (n := 0) (by omega) (by omega)) dL_law_763 ?_
    refine lv_iload hx hb dL_law_764 (lv_at hl 0 rfl) ?_
    refine lv_i2l hx hb dL_law_766 rfl ?_
    refine W.lcmp hx hb dL_law_767 ?_
    refine lv_if_eq (tgt := 773) hx hb dL_law_768 (by decide) (fun c3 => ?_) (fun c3 => absurd (lg_same (show g (Int32.toNatClampNeg 0) = r.toInt64 from (hg c2).trans (by rw [hv c2]))) c3)
    refine lv_goto (tgt := 1637) hx hb dL_law_773 (by decide) ?_
    exact kk t.2.2 g v0' v1 v2 v3 v4 v5 v6' v7 v8 H locs ls hH hR1 (lv_sub hl [2, 3, 4, 5, 6] rfl)
set_option maxRecDepth 100000 in
set_option maxHeartbeats 4000000 in
theorem lc_execute (F : lF D Y cI cZ cL ad bd o p l s m #[Value.ref b] c) (hX : va_X b L xs s s.heap) (hbl : b < s.heap.size) (hH : lH D Y cI cZ cL ad bd o mu f v0 v1 v2 v3 v4 v5 v6 v7 v8 s H locs) (hR : Rel mu v0 v1 v3 v4 v5 v6) (hc : cells + 3 ≤ 601024 ∧ slots + 18 ≤ 7293034) (hL : L ≤ 2048) (hi : i + 3 < L) (hl : lv_has ls 9 [(0, .ref b), (1, .ref (ad 150)), (2, .ref (bd 0)), (3, .ref o), (4, .int (nI i))]) (kk : lK D Y cI cZ cL ad bd o p l e s m below meth c b i (cells + 3) (slots + 18) Q) : W p l e room_1 s m #[Value.ref b] below meth c H locs cells slots Q (F0 m 802 ls []) := by
  obtain ⟨SF, hl0, ⟨hI, hJ, hab, hao, hbo⟩, ⟨ha0, hb0, ho0⟩, ⟨hK, hKm, hKo⟩, hz, hn0⟩ := id F
  have hx := SF.1
  have hb := SF.2.1
  have hts := SF.2.2.2.2
  have hbA : ¬ (fun q : Nat => s.heap.size ≤ q) b := Nat.not_le.mpr hbl
  obtain ⟨t, r, v0', v1', v3', v7', v8', e1, e2, hR1, hk⟩ := q_execute (v7 := v7) (v8 := v8) hR
  have hk1 : t.1 = 0 ∧ v0' 8 = 0 ∨ t.1 = 2 ∧ v0' 8 = 1 := hk.imp (fun h => ⟨h.1, h.2.1⟩) id
  have hv : v0' 8 = 0 → t.2.1 = r := fun c9 => by
    rcases hk with ⟨_, _, h⟩ | ⟨_, h⟩
    · exact h
    · rw [h] at c9; exact absurd c9 (by decide)
  refine lv_aload_n hx hb dL_law_802 rfl (lv_at hl 1 rfl) ?_
  refine lv_aload_n hx hb dL_law_803 rfl (lv_at hl 3 rfl) ?_
  refine kL F hH (h6_execute l hI hl0 H.size ⟨va_at.lt (hH.2.2.1 0 _ rfl), hao⟩ e1 hk1) (vx_cwSW 2 hts qL_139 rfl rfl rfl (by decide +kernel) ⟨Nat.le_of_ble_eq_true rfl, Nat.le_of_ble_eq_true rfl⟩) rfl hl.1 rfl (Nat.le_of_ble_eq_true rfl) dL_law_804 hc (fun H locs g hg hH => ?_)
  refine lv_istore (lv' := [(5, .int (v0' 8)), (0, .ref b), (1, .ref (ad 150)), (2, .ref (bd 0)), (3, .ref o), (4, .int (nI i))]) hx hb dL_law_807 hl (by decide) rfl (fun ls hl => ?_)
  refine lv_aload_n hx hb dL_law_809 rfl (lv_at hl 3 rfl) ?_
  refine kM F hH (c5_execute l hJ H.size e2) (cwV 0 hts qL_141 rfl rfl rfl (by decide +kernel) ⟨Nat.le_of_ble_eq_true rfl, Nat.le_of_ble_eq_true rfl⟩) rfl hl.1 rfl (Nat.le_of_ble_eq_true rfl) dL_law_810 ⟨by omega, by omega⟩ (fun H locs (hH : lH D Y cI cZ cL ad bd o t.2.2 g v0' v1' v2 v3' v4 v5 v6 v7' v8' s H locs) => ?_)
  refine lv_istore (lv' := [(6, .int r), (5, .int (v0' 8)), (0, .ref b), (1, .ref (ad 150)), (2, .ref (bd 0)), (3, .ref o), (4, .int (nI i))]) hx hb dL_law_813 hl (by decide) rfl (fun ls hl => ?_)
  refine lv_aload_n hx hb dL_law_815 rfl (lv_at hl 4 rfl) ?_
  refine kT F hH hl.1 rfl (Nat.le_of_ble_eq_true rfl) dL_law_816 ⟨by omega, by omega⟩ ?_
  refine lv_iload hx hb dL_law_819 (lv_at hl 1 rfl) ?_
  refine lv_icmp_eq (tgt := 826) hx hb dL_law_821 (by decide) (fun c1 => ?_) (fun c1 => absurd rfl c1)
  refine lv_iload hx hb dL_law_826 (lv_at hl 1 rfl) ?_
  refine lv_if_ne (tgt := 843) hx hb dL_law_828 (by decide) (fun c2 => ?_) (fun c2 => ?_)
  · refine lv_goto (tgt := 1637) hx hb dL_law_843 (by decide) ?_
    exact kk t.2.2 g v0' v1' v2 v3' v4 v5 v6 v7' v8' H locs ls hH hR1 (lv_sub hl [2, 3, 4, 5, 6] rfl)
  · refine lv_aload_n hx hb dL_law_831 rfl (lv_at hl 5 rfl) ?_
    refine lv_iconst (v := 0) hx hb dL_law_832 (by decide) ?_
    refine va_lald hx hb hKo hH.2.2.1 0 0 rfl rfl (vp_in_nI (n := 0) (by omega) (by omega)) dL_law_833 ?_
    refine lv_iload hx hb dL_law_834 (lv_at hl 0 rfl) ?_
    refine lv_i2l hx hb dL_law_836 rfl ?_
    refine W.lcmp hx hb dL_law_837 ?_
    refine lv_if_eq (tgt := 843) hx hb dL_law_838 (by decide) (fun c3 => ?_) (fun c3 => absurd (lg_same (show g (Int32.toNatClampNeg 0) = r.toInt64 from (hg c2).trans (by rw [hv c2]))) c3)
    refine lv_goto (tgt := 1637) hx hb dL_law_843 (by decide) ?_
    exact kk t.2.2 g v0' v1' v2 v3' v4 v5 v6 v7' v8' H locs ls hH hR1 (lv_sub hl [2, 3, 4, 5, 6] rfl)
set_option maxRecDepth 100000 in
set_option maxHeartbeats 4000000 in
theorem lc_undo (F : lF D Y cI cZ cL ad bd o p l s m #[Value.ref b] c) (hX : va_X b L xs s s.heap) (hbl : b < s.heap.size) (hH : lH D Y cI cZ cL ad bd o mu f v0 v1 v2 v3 v4 v5 v6 v7 v8 s H locs) (hR : Rel mu v0 v1 v3 v4 v5 v6) (hc : cells + 3 ≤ 601024 ∧ slots + 18 ≤ 7293034) (hL : L ≤ 2048) (hi : i + 3 < L) (hl : lv_has ls 9 [(0, .ref b), (1, .ref (ad 150)), (2, .ref (bd 0)), (3, .ref o), (4, .int (nI i))]) (kk : lK D Y cI cZ cL ad bd o p l e s m below meth c b i (cells + 3) (slots + 18) Q) : W p l e room_1 s m #[Value.ref b] below meth c H locs cells slots Q (F0 m 846 ls []) := by
  obtain ⟨SF, hl0, ⟨hI, hJ, hab, hao, hbo⟩, ⟨ha0, hb0, ho0⟩, ⟨hK, hKm, hKo⟩, hz, hn0⟩ := id F
  have hx := SF.1
  have hb := SF.2.1
  have hts := SF.2.2.2.2
  have hbA : ¬ (fun q : Nat => s.heap.size ≤ q) b := Nat.not_le.mpr hbl
  obtain ⟨t, r, v0', v1', e1, e2, hR1, hk⟩ := q_undo hR
  have hk1 : t.1 = 0 ∧ v0' 8 = 0 ∨ t.1 = 3 ∧ v0' 8 = 1 := hk.imp (fun h => ⟨h.1, h.2.1⟩) id
  have hv : v0' 8 = 0 → t.2.1 = r := fun c9 => by
    rcases hk with ⟨_, _, h⟩ | ⟨_, h⟩
    · exact h
    · rw [h] at c9; exact absurd c9 (by decide)
  refine lv_aload_n hx hb dL_law_846 rfl (lv_at hl 1 rfl) ?_
  refine lv_aload_n hx hb dL_law_847 rfl (lv_at hl 3 rfl) ?_
  refine kL F hH (h6_undo l hI hl0 H.size ⟨va_at.lt (hH.2.2.1 0 _ rfl), hao⟩ e1 hk1) (vx_cwSW 2 hts qL_142 rfl rfl rfl (by decide +kernel) ⟨Nat.le_of_ble_eq_true rfl, Nat.le_of_ble_eq_true rfl⟩) rfl hl.1 rfl (Nat.le_of_ble_eq_true rfl) dL_law_848 hc (fun H locs g hg hH => ?_)
  refine lv_istore (lv' := [(5, .int (v0' 8)), (0, .ref b), (1, .ref (ad 150)), (2, .ref (bd 0)), (3, .ref o), (4, .int (nI i))]) hx hb dL_law_851 hl (by decide) rfl (fun ls hl => ?_)
  refine lv_aload_n hx hb dL_law_853 rfl (lv_at hl 3 rfl) ?_
  refine kM F hH (c5_undo l hJ H.size e2) (cwV 0 hts qL_144 rfl rfl rfl (by decide +kernel) ⟨Nat.le_of_ble_eq_true rfl, Nat.le_of_ble_eq_true rfl⟩) rfl hl.1 rfl (Nat.le_of_ble_eq_true rfl) dL_law_854 ⟨by omega, by omega⟩ (fun H locs (hH : lH D Y cI cZ cL ad bd o t.2.2 g v0' v1' v2 v3 v4 v5 v6 v7 v8 s H locs) => ?_)
  refine lv_istore (lv' := [(6, .int r), (5, .int (v0' 8)), (0, .ref b), (1, .ref (ad 150)), (2, .ref (bd 0)), (3, .ref o), (4, .int (nI i))]) hx hb dL_law_857 hl (by decide) rfl (fun ls hl => ?_)
  refine lv_aload_n hx hb dL_law_859 rfl (lv_at hl 4 rfl) ?_
  refine kT F hH hl.1 rfl (Nat.le_of_ble_eq_true rfl) dL_law_860 ⟨by omega, by omega⟩ ?_
  refine lv_iload hx hb dL_law_863 (lv_at hl 1 rfl) ?_
  refine lv_icmp_eq (tgt := 870) hx hb dL_law_865 (by decide) (fun c1 => ?_) (fun c1 => absurd rfl c1)
  refine lv_iload hx hb dL_law_870 (lv_at hl 1 rfl) ?_
  refine lv_if_ne (tgt := 887) hx hb dL_law_872 (by decide) (fun c2 => ?_) (fun c2 => ?_)
  · refine lv_goto (tgt := 1637) hx hb dL_law_887 (by decide) ?_
    exact kk t.2.2 g v0' v1' v2 v3 v4 v5 v6 v7 v8 H locs ls hH hR1 (lv_sub hl [2, 3, 4, 5, 6] rfl)
  · refine lv_aload_n hx hb dL_law_875 rfl (lv_at hl 5 rfl) ?_
    refine lv_iconst (v := 0) hx hb dL_law_876 (by decide) ?_
    refine va_lald hx hb hKo hH.2.2.1 0 0 rfl rfl (vp_in_nI (n := 0) (by omega) (by omega)) dL_law_877 ?_
    refine lv_iload hx hb dL_law_878 (lv_at hl 0 rfl) ?_
    refine lv_i2l hx hb dL_law_880 rfl ?_
    refine W.lcmp hx hb dL_law_881 ?_
    refine lv_if_eq (tgt := 887) hx hb dL_law_882 (by decide) (fun c3 => ?_) (fun c3 => absurd (lg_same (show g (Int32.toNatClampNeg 0) = r.toInt64 from (hg c2).trans (by rw [hv c2]))) c3)
    refine lv_goto (tgt := 1637) hx hb dL_law_887 (by decide) ?_
    exact kk t.2.2 g v0' v1' v2 v3 v4 v5 v6 v7 v8 H locs ls hH hR1 (lv_sub hl [2, 3, 4, 5, 6] rfl)
set_option maxRecDepth 100000 in
set_option maxHeartbeats 4000000 in
theorem lc_keep (F : lF D Y cI cZ cL ad bd o p l s m #[Value.ref b] c) (hX : va_X b L xs s s.heap) (hbl : b < s.heap.size) (hH : lH D Y cI cZ cL ad bd o mu f v0 v1 v2 v3 v4 v5 v6 v7 v8 s H locs) (hR : Rel mu v0 v1 v3 v4 v5 v6) (hc : cells + 3 ≤ 601024 ∧ slots + 18 ≤ 7293034) (hL : L ≤ 2048) (hi : i + 3 < L) (hl : lv_has ls 9 [(0, .ref b), (1, .ref (ad 150)), (2, .ref (bd 0)), (3, .ref o), (4, .int (nI i))]) (kk : lK D Y cI cZ cL ad bd o p l e s m below meth c b i (cells + 3) (slots + 18) Q) : W p l e room_1 s m #[Value.ref b] below meth c H locs cells slots Q (F0 m 890 ls []) := by
  obtain ⟨SF, hl0, ⟨hI, hJ, hab, hao, hbo⟩, ⟨ha0, hb0, ho0⟩, ⟨hK, hKm, hKo⟩, hz, hn0⟩ := id F
  have hx := SF.1
  have hb := SF.2.1
  have hts := SF.2.2.2.2
  have hbA : ¬ (fun q : Nat => s.heap.size ≤ q) b := Nat.not_le.mpr hbl
  have hi1 : vp_in (nI i + 1) L := by rw [show nI i + 1 = nI (i + 1) from nI_add i 1]; exact vp_in_nI (by omega) (by omega)
  obtain ⟨x1, hx1⟩ : ∃ x, x = xs (Int32.toNatClampNeg (nI i + 1)) := ⟨_, rfl⟩
  obtain ⟨t, r, v0', v4', v5', e1, e2, hR1, hk⟩ := q_keep x1 hR
  have hk1 : t.1 = 0 ∧ v0' 8 = 0 ∨ t.1 = 2 ∧ v0' 8 = 1 := hk.imp (fun h => ⟨h.1, h.2.1⟩) id
  have hv : v0' 8 = 0 → t.2.1 = r := fun c9 => by
    rcases hk with ⟨_, _, h⟩ | ⟨_, h⟩
    · exact h
    · rw [h] at c9; exact absurd c9 (by decide)
  refine lv_aload_n hx hb dL_law_890 rfl (lv_at hl 1 rfl) ?_
  refine lv_aload_n hx hb dL_law_891 rfl (lv_at hl 0 rfl) ?_
  refine lv_iload hx hb dL_law_892 (lv_at hl 4 rfl) ?_
  refine lv_iconst (v := 1) hx hb dL_law_894 (by decide) ?_
  refine lv_iadd hx hb dL_law_895 ?_
  refine va_sld hx hb hX hbl hbA hH.2.2.2 hi1 dL_law_896 ?_
  rw [← hx1]
  refine lv_aload_n hx hb dL_law_897 rfl (lv_at hl 3 rfl) ?_
  refine kL F hH (h6_keep l hI hl0 H.size ⟨va_at.lt (hH.2.2.1 0 _ rfl), hao⟩ x1 e1 hk1) (vx_cwSW 3 hts qL_145 rfl rfl rfl (by decide +kernel) ⟨Nat.le_of_ble_eq_true rfl, Nat.le_of_ble_eq_true rfl⟩) rfl hl.1 rfl (Nat.le_of_ble_eq_true rfl) dL_law_898 hc (fun H locs g hg hH => ?_)
  refine lv_istore (lv' := [(5, .int (v0' 8)), (0, .ref b), (1, .ref (ad 150)), (2, .ref (bd 0)), (3, .ref o), (4, .int (nI i))]) hx hb dL_law_901 hl (by decide) rfl (fun ls hl => ?_)
  refine lv_aload_n hx hb dL_law_903 rfl (lv_at hl 3 rfl) ?_
  refine lv_aload_n hx hb dL_law_904 rfl (lv_at hl 1 rfl) ?_
  refine lv_iload hx hb dL_law_905 (lv_at hl 5 rfl) ?_
  refine lv_iconst (v := 1) hx hb dL_law_907 (by decide) ?_
  refine lv_iadd hx hb dL_law_908 ?_
  refine va_sld hx hb hX hbl hbA hH.2.2.2 hi1 dL_law_909 ?_
  rw [← hx1]
  refine kM F hH (c5_keep l hJ H.size x1 e2) (cwV 1 hts qL_147 rfl rfl rfl (by decide +kernel) ⟨Nat.le_of_ble_eq_true rfl, Nat.le_of_ble_eq_true rfl⟩) rfl hl.1 rfl (Nat.le_of_ble_eq_true rfl) dL_law_910 ⟨by omega, by omega⟩ (fun H locs (hH : lH D Y cI cZ cL ad bd o t.2.2 g v0' v1 v2 v3 v4' v5' v6 v7 v8 s H locs) => ?_)
  refine lv_istore (lv' := [(6, .int r), (5, .int (v0' 8)), (0, .ref b), (1, .ref (ad 150)), (2, .ref (bd 0)), (3, .ref o), (4, .int (nI i))]) hx hb dL_law_913 hl (by decide) rfl (fun ls hl => ?_)
  refine lv_aload_n hx hb dL_law_915 rfl (lv_at hl 4 rfl) ?_
  refine kT F hH hl.1 rfl (Nat.le_of_ble_eq_true rfl) dL_law_916 ⟨by omega, by omega⟩ ?_
  refine lv_iload hx hb dL_law_919 (lv_at hl 1 rfl) ?_
  refine lv_icmp_eq (tgt := 926) hx hb dL_law_921 (by decide) (fun c1 => ?_) (fun c1 => absurd rfl c1)
  refine lv_iload hx hb dL_law_926 (lv_at hl 1 rfl) ?_
  refine lv_if_ne (tgt := 943) hx hb dL_law_928 (by decide) (fun c2 => ?_) (fun c2 => ?_)
  · refine lv_goto (tgt := 1637) hx hb dL_law_943 (by decide) ?_
    exact kk t.2.2 g v0' v1 v2 v3 v4' v5' v6 v7 v8 H locs ls hH hR1 (lv_sub hl [2, 3, 4, 5, 6] rfl)
  · refine lv_aload_n hx hb dL_law_931 rfl (lv_at hl 5 rfl) ?_
    refine lv_iconst (v := 0) hx hb dL_law_932 (by decide) ?_
    refine va_lald hx hb hKo hH.2.2.1 0 0 rfl rfl (vp_in_nI (n := 0) (by omega) (by omega)) dL_law_933 ?_
    refine lv_iload hx hb dL_law_934 (lv_at hl 0 rfl) ?_
    refine lv_i2l hx hb dL_law_936 rfl ?_
    refine W.lcmp hx hb dL_law_937 ?_
    refine lv_if_eq (tgt := 943) hx hb dL_law_938 (by decide) (fun c3 => ?_) (fun c3 => absurd (lg_same (show g (Int32.toNatClampNeg 0) = r.toInt64 from (hg c2).trans (by rw [hv c2]))) c3)
    refine lv_goto (tgt := 1637) hx hb dL_law_943 (by decide) ?_
    exact kk t.2.2 g v0' v1 v2 v3 v4' v5' v6 v7 v8 H locs ls hH hR1 (lv_sub hl [2, 3, 4, 5, 6] rfl)
set_option maxRecDepth 100000 in
set_option maxHeartbeats 4000000 in
theorem lc_goBack (F : lF D Y cI cZ cL ad bd o p l s m #[Value.ref b] c) (hX : va_X b L xs s s.heap) (hbl : b < s.heap.size) (hH : lH D Y cI cZ cL ad bd o mu f v0 v1 v2 v3 v4 v5 v6 v7 v8 s H locs) (hR : Rel mu v0 v1 v3 v4 v5 v6) (hc : cells + 3 ≤ 601024 ∧ slots + 18 ≤ 7293034) (hL : L ≤ 2048) (hi : i + 3 < L) (hl : lv_has ls 9 [(0, .ref b), (1, .ref (ad 150)), (2, .ref (bd 0)), (3, .ref o), (4, .int (nI i))]) (kk : lK D Y cI cZ cL ad bd o p l e s m below meth c b i (cells + 3) (slots + 18) Q) : W p l e room_1 s m #[Value.ref b] below meth c H locs cells slots Q (F0 m 946 ls []) := by
  obtain ⟨SF, hl0, ⟨hI, hJ, hab, hao, hbo⟩, ⟨ha0, hb0, ho0⟩, ⟨hK, hKm, hKo⟩, hz, hn0⟩ := id F
  have hx := SF.1
  have hb := SF.2.1
  have hts := SF.2.2.2.2
  have hbA : ¬ (fun q : Nat => s.heap.size ≤ q) b := Nat.not_le.mpr hbl
  have hi1 : vp_in (nI i + 1) L := by rw [show nI i + 1 = nI (i + 1) from nI_add i 1]; exact vp_in_nI (by omega) (by omega)
  obtain ⟨x1, hx1⟩ : ∃ x, x = xs (Int32.toNatClampNeg (nI i + 1)) := ⟨_, rfl⟩
  obtain ⟨t, r, v0', v1', v3', e1, e2, hR1, hk⟩ := q_goBack x1 hR
  have hk1 : t.1 = 0 ∧ v0' 8 = 0 ∨ t.1 = 2 ∧ v0' 8 = 1 ∨ t.1 = 3 ∧ v0' 8 = 2 := hk.imp (fun h => ⟨h.1, h.2.1⟩) id
  have hv : v0' 8 = 0 → t.2.1 = r := fun c9 => by
    rcases hk with ⟨_, _, h⟩ | ⟨_, h⟩ | ⟨_, h⟩
    · exact h
    · rw [h] at c9; exact absurd c9 (by decide)
    · rw [h] at c9; exact absurd c9 (by decide)
  refine lv_aload_n hx hb dL_law_946 rfl (lv_at hl 1 rfl) ?_
  refine lv_aload_n hx hb dL_law_947 rfl (lv_at hl 0 rfl) ?_
  refine lv_iload hx hb dL_law_948 (lv_at hl 4 rfl) ?_
  refine lv_iconst (v := 1) hx hb dL_law_950 (by decide) ?_
  refine lv_iadd hx hb dL_law_951 ?_
  refine va_sld hx hb hX hbl hbA hH.2.2.2 hi1 dL_law_952 ?_
  rw [← hx1]
  refine lv_aload_n hx hb dL_law_953 rfl (lv_at hl 3 rfl) ?_
  refine kL F hH (h6_goBack l hI hl0 H.size ⟨va_at.lt (hH.2.2.1 0 _ rfl), hao⟩ x1 e1 hk1) (vx_cwSW 3 hts qL_148 rfl rfl rfl (by decide +kernel) ⟨Nat.le_of_ble_eq_true rfl, Nat.le_of_ble_eq_true rfl⟩) rfl hl.1 rfl (Nat.le_of_ble_eq_true rfl) dL_law_954 hc (fun H locs g hg hH => ?_)
  refine lv_istore (lv' := [(5, .int (v0' 8)), (0, .ref b), (1, .ref (ad 150)), (2, .ref (bd 0)), (3, .ref o), (4, .int (nI i))]) hx hb dL_law_957 hl (by decide) rfl (fun ls hl => ?_)
  refine lv_aload_n hx hb dL_law_959 rfl (lv_at hl 3 rfl) ?_
  refine lv_aload_n hx hb dL_law_960 rfl (lv_at hl 1 rfl) ?_
  refine lv_iload hx hb dL_law_961 (lv_at hl 5 rfl) ?_
  refine lv_iconst (v := 1) hx hb dL_law_963 (by decide) ?_
  refine lv_iadd hx hb dL_law_964 ?_
  refine va_sld hx hb hX hbl hbA hH.2.2.2 hi1 dL_law_965 ?_
  rw [← hx1]
  refine kM F hH (c5_goBack l hJ H.size x1 e2) (cwV 1 hts qL_150 rfl rfl rfl (by decide +kernel) ⟨Nat.le_of_ble_eq_true rfl, Nat.le_of_ble_eq_true rfl⟩) rfl hl.1 rfl (Nat.le_of_ble_eq_true rfl) dL_law_966 ⟨by omega, by omega⟩ (fun H locs (hH : lH D Y cI cZ cL ad bd o t.2.2 g v0' v1' v2 v3' v4 v5 v6 v7 v8 s H locs) => ?_)
  refine lv_istore (lv' := [(6, .int r), (5, .int (v0' 8)), (0, .ref b), (1, .ref (ad 150)), (2, .ref (bd 0)), (3, .ref o), (4, .int (nI i))]) hx hb dL_law_969 hl (by decide) rfl (fun ls hl => ?_)
  refine lv_aload_n hx hb dL_law_971 rfl (lv_at hl 4 rfl) ?_
  refine kT F hH hl.1 rfl (Nat.le_of_ble_eq_true rfl) dL_law_972 ⟨by omega, by omega⟩ ?_
  refine lv_iload hx hb dL_law_975 (lv_at hl 1 rfl) ?_
  refine lv_icmp_eq (tgt := 982) hx hb dL_law_977 (by decide) (fun c1 => ?_) (fun c1 => absurd rfl c1)
  refine lv_iload hx hb dL_law_982 (lv_at hl 1 rfl) ?_
  refine lv_if_ne (tgt := 999) hx hb dL_law_984 (by decide) (fun c2 => ?_) (fun c2 => ?_)
  · refine lv_goto (tgt := 1637) hx hb dL_law_999 (by decide) ?_
    exact kk t.2.2 g v0' v1' v2 v3' v4 v5 v6 v7 v8 H locs ls hH hR1 (lv_sub hl [2, 3, 4, 5, 6] rfl)
  · refine lv_aload_n hx hb dL_law_987 rfl (lv_at hl 5 rfl) ?_
    refine lv_iconst (v := 0) hx hb dL_law_988 (by decide) ?_
    refine va_lald hx hb hKo hH.2.2.1 0 0 rfl rfl (vp_in_nI (n := 0) (by omega) (by omega)) dL_law_989 ?_
    refine lv_iload hx hb dL_law_990 (lv_at hl 0 rfl) ?_
    refine lv_i2l hx hb dL_law_992 rfl ?_
    refine W.lcmp hx hb dL_law_993 ?_
    refine lv_if_eq (tgt := 999) hx hb dL_law_994 (by decide) (fun c3 => ?_) (fun c3 => absurd (lg_same (show g (Int32.toNatClampNeg 0) = r.toInt64 from (hg c2).trans (by rw [hv c2]))) c3)
    refine lv_goto (tgt := 1637) hx hb dL_law_999 (by decide) ?_
    exact kk t.2.2 g v0' v1' v2 v3' v4 v5 v6 v7 v8 H locs ls hH hR1 (lv_sub hl [2, 3, 4, 5, 6] rfl)
set_option maxRecDepth 100000 in
set_option maxHeartbeats 4000000 in
theorem lc_section (F : lF D Y cI cZ cL ad bd o p l s m #[Value.ref b] c) (hX : va_X b L xs s s.heap) (hbl : b < s.heap.size) (hH : lH D Y cI cZ cL ad bd o mu f v0 v1 v2 v3 v4 v5 v6 v7 v8 s H locs) (hR : Rel mu v0 v1 v3 v4 v5 v6) (hc : cells + 3 ≤ 601024 ∧ slots + 18 ≤ 7293034) (hL : L ≤ 2048) (hi : i + 3 < L) (hl : lv_has ls 9 [(0, .ref b), (1, .ref (ad 150)), (2, .ref (bd 0)), (3, .ref o), (4, .int (nI i))]) (kk : lK D Y cI cZ cL ad bd o p l e s m below meth c b i (cells + 3) (slots + 18) Q) : W p l e room_1 s m #[Value.ref b] below meth c H locs cells slots Q (F0 m 1002 ls []) := by
  obtain ⟨SF, hl0, ⟨hI, hJ, hab, hao, hbo⟩, ⟨ha0, hb0, ho0⟩, ⟨hK, hKm, hKo⟩, hz, hn0⟩ := id F
  have hx := SF.1
  have hb := SF.2.1
  have hts := SF.2.2.2.2
  have hbA : ¬ (fun q : Nat => s.heap.size ≤ q) b := Nat.not_le.mpr hbl
  have hi1 : vp_in (nI i + 1) L := by rw [show nI i + 1 = nI (i + 1) from nI_add i 1]; exact vp_in_nI (by omega) (by omega)
  obtain ⟨x1, hx1⟩ : ∃ x, x = xs (Int32.toNatClampNeg (nI i + 1)) := ⟨_, rfl⟩
  have hi2 : vp_in (nI i + 2) L := by rw [show nI i + 2 = nI (i + 2) from nI_add i 2]; exact vp_in_nI (by omega) (by omega)
  obtain ⟨x2, hx2⟩ : ∃ x, x = xs (Int32.toNatClampNeg (nI i + 2)) := ⟨_, rfl⟩
  obtain ⟨t, r, v0', e1, e2, hR1, hk⟩ := q_section x1 x2 hR
  have hk1 : t.1 = 0 ∧ v0' 8 = 0 ∨ t.1 = 1 ∧ v0' 8 = 1 ∨ t.1 = 2 ∧ v0' 8 = 2 := hk.imp (fun h => ⟨h.1, h.2.1⟩) id
  have hv : v0' 8 = 0 → t.2 = r := fun c9 => by
    rcases hk with ⟨_, _, h⟩ | ⟨_, h⟩ | ⟨_, h⟩
    · exact h
    · rw [h] at c9; exact absurd c9 (by decide)
    · rw [h] at c9; exact absurd c9 (by decide)
  refine lv_aload_n hx hb dL_law_1002 rfl (lv_at hl 1 rfl) ?_
  refine lv_aload_n hx hb dL_law_1003 rfl (lv_at hl 0 rfl) ?_
  refine lv_iload hx hb dL_law_1004 (lv_at hl 4 rfl) ?_
  refine lv_iconst (v := 1) hx hb dL_law_1006 (by decide) ?_
  refine lv_iadd hx hb dL_law_1007 ?_
  refine va_sld hx hb hX hbl hbA hH.2.2.2 hi1 dL_law_1008 ?_
  rw [← hx1]
  refine lv_aload_n hx hb dL_law_1009 rfl (lv_at hl 0 rfl) ?_
  refine lv_iload hx hb dL_law_1010 (lv_at hl 4 rfl) ?_
  refine lv_iconst (v := 2) hx hb dL_law_1012 (by decide) ?_
  refine lv_iadd hx hb dL_law_1013 ?_
  refine va_sld hx hb hX hbl hbA hH.2.2.2 hi2 dL_law_1014 ?_
  rw [← hx2]
  refine lv_aload_n hx hb dL_law_1015 rfl (lv_at hl 3 rfl) ?_
  refine kL F hH (h6_section l hI hl0 H.size ⟨va_at.lt (hH.2.2.1 0 _ rfl), hao⟩ x1 x2 e1 hk1) (vx_cwSW 4 hts qL_151 rfl rfl rfl (by decide +kernel) ⟨Nat.le_of_ble_eq_true rfl, Nat.le_of_ble_eq_true rfl⟩) rfl hl.1 rfl (Nat.le_of_ble_eq_true rfl) dL_law_1016 hc (fun H locs g hg hH => ?_)
  refine lv_istore (lv' := [(5, .int (v0' 8)), (0, .ref b), (1, .ref (ad 150)), (2, .ref (bd 0)), (3, .ref o), (4, .int (nI i))]) hx hb dL_law_1019 hl (by decide) rfl (fun ls hl => ?_)
  refine lv_aload_n hx hb dL_law_1021 rfl (lv_at hl 3 rfl) ?_
  refine lv_aload_n hx hb dL_law_1022 rfl (lv_at hl 1 rfl) ?_
  refine lv_iload hx hb dL_law_1023 (lv_at hl 5 rfl) ?_
  refine lv_iconst (v := 1) hx hb dL_law_1025 (by decide) ?_
  refine lv_iadd hx hb dL_law_1026 ?_
  refine va_sld hx hb hX hbl hbA hH.2.2.2 hi1 dL_law_1027 ?_
  rw [← hx1]
  refine lv_aload_n hx hb dL_law_1028 rfl (lv_at hl 1 rfl) ?_
  refine lv_iload hx hb dL_law_1029 (lv_at hl 5 rfl) ?_
  refine lv_iconst (v := 2) hx hb dL_law_1031 (by decide) ?_
  refine lv_iadd hx hb dL_law_1032 ?_
  refine va_sld hx hb hX hbl hbA hH.2.2.2 hi2 dL_law_1033 ?_
  rw [← hx2]
  refine kM F hH (c5_section l hJ H.size x1 x2 e2) (cwV 2 hts qL_153 rfl rfl rfl (by decide +kernel) ⟨Nat.le_of_ble_eq_true rfl, Nat.le_of_ble_eq_true rfl⟩) rfl hl.1 rfl (Nat.le_of_ble_eq_true rfl) dL_law_1034 ⟨by omega, by omega⟩ (fun H locs (hH : lH D Y cI cZ cL ad bd o mu g v0' v1 v2 v3 v4 v5 v6 v7 v8 s H locs) => ?_)
  refine lv_istore (lv' := [(6, .int r), (5, .int (v0' 8)), (0, .ref b), (1, .ref (ad 150)), (2, .ref (bd 0)), (3, .ref o), (4, .int (nI i))]) hx hb dL_law_1037 hl (by decide) rfl (fun ls hl => ?_)
  refine lv_aload_n hx hb dL_law_1039 rfl (lv_at hl 4 rfl) ?_
  refine kT F hH hl.1 rfl (Nat.le_of_ble_eq_true rfl) dL_law_1040 ⟨by omega, by omega⟩ ?_
  refine lv_iload hx hb dL_law_1043 (lv_at hl 1 rfl) ?_
  refine lv_icmp_eq (tgt := 1050) hx hb dL_law_1045 (by decide) (fun c1 => ?_) (fun c1 => absurd rfl c1)
  refine lv_iload hx hb dL_law_1050 (lv_at hl 1 rfl) ?_
  refine lv_if_ne (tgt := 1067) hx hb dL_law_1052 (by decide) (fun c2 => ?_) (fun c2 => ?_)
  · refine lv_goto (tgt := 1637) hx hb dL_law_1067 (by decide) ?_
    exact kk mu g v0' v1 v2 v3 v4 v5 v6 v7 v8 H locs ls hH hR1 (lv_sub hl [2, 3, 4, 5, 6] rfl)
  · refine lv_aload_n hx hb dL_law_1055 rfl (lv_at hl 5 rfl) ?_
    refine lv_iconst (v := 0) hx hb dL_law_1056 (by decide) ?_
    refine va_lald hx hb hKo hH.2.2.1 0 0 rfl rfl (vp_in_nI (n := 0) (by omega) (by omega)) dL_law_1057 ?_
    refine lv_iload hx hb dL_law_1058 (lv_at hl 0 rfl) ?_
    refine lv_i2l hx hb dL_law_1060 rfl ?_
    refine W.lcmp hx hb dL_law_1061 ?_
    refine lv_if_eq (tgt := 1067) hx hb dL_law_1062 (by decide) (fun c3 => ?_) (fun c3 => absurd (lg_same (show g (Int32.toNatClampNeg 0) = r.toInt64 from (hg c2).trans (by rw [hv c2]))) c3)
    refine lv_goto (tgt := 1637) hx hb dL_law_1067 (by decide) ?_
    exact kk mu g v0' v1 v2 v3 v4 v5 v6 v7 v8 H locs ls hH hR1 (lv_sub hl [2, 3, 4, 5, 6] rfl)
set_option maxRecDepth 100000 in
set_option maxHeartbeats 4000000 in
theorem lc_carOf (F : lF D Y cI cZ cL ad bd o p l s m #[Value.ref b] c) (hX : va_X b L xs s s.heap) (hbl : b < s.heap.size) (hH : lH D Y cI cZ cL ad bd o mu f v0 v1 v2 v3 v4 v5 v6 v7 v8 s H locs) (hR : Rel mu v0 v1 v3 v4 v5 v6) (hc : cells + 3 ≤ 601024 ∧ slots + 18 ≤ 7293034) (hL : L ≤ 2048) (hi : i + 3 < L) (hl : lv_has ls 9 [(0, .ref b), (1, .ref (ad 150)), (2, .ref (bd 0)), (3, .ref o), (4, .int (nI i))]) (kk : lK D Y cI cZ cL ad bd o p l e s m below meth c b i (cells + 3) (slots + 18) Q) : W p l e room_1 s m #[Value.ref b] below meth c H locs cells slots Q (F0 m 1070 ls []) := by
  obtain ⟨SF, hl0, ⟨hI, hJ, hab, hao, hbo⟩, ⟨ha0, hb0, ho0⟩, ⟨hK, hKm, hKo⟩, hz, hn0⟩ := id F
  have hx := SF.1
  have hb := SF.2.1
  have hts := SF.2.2.2.2
  have hbA : ¬ (fun q : Nat => s.heap.size ≤ q) b := Nat.not_le.mpr hbl
  have hi1 : vp_in (nI i + 1) L := by rw [show nI i + 1 = nI (i + 1) from nI_add i 1]; exact vp_in_nI (by omega) (by omega)
  obtain ⟨x1, hx1⟩ : ∃ x, x = xs (Int32.toNatClampNeg (nI i + 1)) := ⟨_, rfl⟩
  have hi2 : vp_in (nI i + 2) L := by rw [show nI i + 2 = nI (i + 2) from nI_add i 2]; exact vp_in_nI (by omega) (by omega)
  obtain ⟨x2, hx2⟩ : ∃ x, x = xs (Int32.toNatClampNeg (nI i + 2)) := ⟨_, rfl⟩
  obtain ⟨t, r, v0', e1, e2, hR1, hk⟩ := q_carOf x1 x2 hR
  have hk1 : t.1 = 0 ∧ v0' 8 = 0 ∨ t.1 = 1 ∧ v0' 8 = 1 ∨ t.1 = 2 ∧ v0' 8 = 2 := hk.imp (fun h => ⟨h.1, h.2.1⟩) id
  have hv : v0' 8 = 0 → t.2 = r := fun c9 => by
    rcases hk with ⟨_, _, h⟩ | ⟨_, h⟩ | ⟨_, h⟩
    · exact h
    · rw [h] at c9; exact absurd c9 (by decide)
    · rw [h] at c9; exact absurd c9 (by decide)
  refine lv_aload_n hx hb dL_law_1070 rfl (lv_at hl 1 rfl) ?_
  refine lv_aload_n hx hb dL_law_1071 rfl (lv_at hl 0 rfl) ?_
  refine lv_iload hx hb dL_law_1072 (lv_at hl 4 rfl) ?_
  refine lv_iconst (v := 1) hx hb dL_law_1074 (by decide) ?_
  refine lv_iadd hx hb dL_law_1075 ?_
  refine va_sld hx hb hX hbl hbA hH.2.2.2 hi1 dL_law_1076 ?_
  rw [← hx1]
  refine lv_aload_n hx hb dL_law_1077 rfl (lv_at hl 0 rfl) ?_
  refine lv_iload hx hb dL_law_1078 (lv_at hl 4 rfl) ?_
  refine lv_iconst (v := 2) hx hb dL_law_1080 (by decide) ?_
  refine lv_iadd hx hb dL_law_1081 ?_
  refine va_sld hx hb hX hbl hbA hH.2.2.2 hi2 dL_law_1082 ?_
  rw [← hx2]
  refine lv_aload_n hx hb dL_law_1083 rfl (lv_at hl 3 rfl) ?_
  refine kL F hH (h6_carOf l hI hl0 H.size ⟨va_at.lt (hH.2.2.1 0 _ rfl), hao⟩ x1 x2 e1 hk1) (vx_cwSW 4 hts qL_154 rfl rfl rfl (by decide +kernel) ⟨Nat.le_of_ble_eq_true rfl, Nat.le_of_ble_eq_true rfl⟩) rfl hl.1 rfl (Nat.le_of_ble_eq_true rfl) dL_law_1084 hc (fun H locs g hg hH => ?_)
  refine lv_istore (lv' := [(5, .int (v0' 8)), (0, .ref b), (1, .ref (ad 150)), (2, .ref (bd 0)), (3, .ref o), (4, .int (nI i))]) hx hb dL_law_1087 hl (by decide) rfl (fun ls hl => ?_)
  refine lv_aload_n hx hb dL_law_1089 rfl (lv_at hl 3 rfl) ?_
  refine lv_aload_n hx hb dL_law_1090 rfl (lv_at hl 1 rfl) ?_
  refine lv_iload hx hb dL_law_1091 (lv_at hl 5 rfl) ?_
  refine lv_iconst (v := 1) hx hb dL_law_1093 (by decide) ?_
  refine lv_iadd hx hb dL_law_1094 ?_
  refine va_sld hx hb hX hbl hbA hH.2.2.2 hi1 dL_law_1095 ?_
  rw [← hx1]
  refine lv_aload_n hx hb dL_law_1096 rfl (lv_at hl 1 rfl) ?_
  refine lv_iload hx hb dL_law_1097 (lv_at hl 5 rfl) ?_
  refine lv_iconst (v := 2) hx hb dL_law_1099 (by decide) ?_
  refine lv_iadd hx hb dL_law_1100 ?_
  refine va_sld hx hb hX hbl hbA hH.2.2.2 hi2 dL_law_1101 ?_
  rw [← hx2]
  refine kM F hH (c5_carOf l hJ H.size x1 x2 e2) (cwV 2 hts qL_156 rfl rfl rfl (by decide +kernel) ⟨Nat.le_of_ble_eq_true rfl, Nat.le_of_ble_eq_true rfl⟩) rfl hl.1 rfl (Nat.le_of_ble_eq_true rfl) dL_law_1102 ⟨by omega, by omega⟩ (fun H locs (hH : lH D Y cI cZ cL ad bd o mu g v0' v1 v2 v3 v4 v5 v6 v7 v8 s H locs) => ?_)
  refine lv_istore (lv' := [(6, .int r), (5, .int (v0' 8)), (0, .ref b), (1, .ref (ad 150)), (2, .ref (bd 0)), (3, .ref o), (4, .int (nI i))]) hx hb dL_law_1105 hl (by decide) rfl (fun ls hl => ?_)
  refine lv_aload_n hx hb dL_law_1107 rfl (lv_at hl 4 rfl) ?_
  refine kT F hH hl.1 rfl (Nat.le_of_ble_eq_true rfl) dL_law_1108 ⟨by omega, by omega⟩ ?_
  refine lv_iload hx hb dL_law_1111 (lv_at hl 1 rfl) ?_
  refine lv_icmp_eq (tgt := 1118) hx hb dL_law_1113 (by decide) (fun c1 => ?_) (fun c1 => absurd rfl c1)
  refine lv_iload hx hb dL_law_1118 (lv_at hl 1 rfl) ?_
  refine lv_if_ne (tgt := 1135) hx hb dL_law_1120 (by decide) (fun c2 => ?_) (fun c2 => ?_)
  · refine lv_goto (tgt := 1637) hx hb dL_law_1135 (by decide) ?_
    exact kk mu g v0' v1 v2 v3 v4 v5 v6 v7 v8 H locs ls hH hR1 (lv_sub hl [2, 3, 4, 5, 6] rfl)
  · refine lv_aload_n hx hb dL_law_1123 rfl (lv_at hl 5 rfl) ?_
    refine lv_iconst (v := 0) hx hb dL_law_1124 (by decide) ?_
    refine va_lald hx hb hKo hH.2.2.1 0 0 rfl rfl (vp_in_nI (n := 0) (by omega) (by omega)) dL_law_1125 ?_
    refine lv_iload hx hb dL_law_1126 (lv_at hl 0 rfl) ?_
    refine lv_i2l hx hb dL_law_1128 rfl ?_
    refine W.lcmp hx hb dL_law_1129 ?_
    refine lv_if_eq (tgt := 1135) hx hb dL_law_1130 (by decide) (fun c3 => ?_) (fun c3 => absurd (lg_same (show g (Int32.toNatClampNeg 0) = r.toInt64 from (hg c2).trans (by rw [hv c2]))) c3)
    refine lv_goto (tgt := 1637) hx hb dL_law_1135 (by decide) ?_
    exact kk mu g v0' v1 v2 v3 v4 v5 v6 v7 v8 H locs ls hH hR1 (lv_sub hl [2, 3, 4, 5, 6] rfl)
set_option maxRecDepth 100000 in
set_option maxHeartbeats 4000000 in
theorem lc_cars (F : lF D Y cI cZ cL ad bd o p l s m #[Value.ref b] c) (hX : va_X b L xs s s.heap) (hbl : b < s.heap.size) (hH : lH D Y cI cZ cL ad bd o mu f v0 v1 v2 v3 v4 v5 v6 v7 v8 s H locs) (hR : Rel mu v0 v1 v3 v4 v5 v6) (hc : cells + 3 ≤ 601024 ∧ slots + 18 ≤ 7293034) (hL : L ≤ 2048) (hi : i + 3 < L) (hl : lv_has ls 9 [(0, .ref b), (1, .ref (ad 150)), (2, .ref (bd 0)), (3, .ref o), (4, .int (nI i))]) (kk : lK D Y cI cZ cL ad bd o p l e s m below meth c b i (cells + 3) (slots + 18) Q) : W p l e room_1 s m #[Value.ref b] below meth c H locs cells slots Q (F0 m 1138 ls []) := by
  obtain ⟨SF, hl0, ⟨hI, hJ, hab, hao, hbo⟩, ⟨ha0, hb0, ho0⟩, ⟨hK, hKm, hKo⟩, hz, hn0⟩ := id F
  have hx := SF.1
  have hb := SF.2.1
  have hts := SF.2.2.2.2
  have hbA : ¬ (fun q : Nat => s.heap.size ≤ q) b := Nat.not_le.mpr hbl
  have hi1 : vp_in (nI i + 1) L := by rw [show nI i + 1 = nI (i + 1) from nI_add i 1]; exact vp_in_nI (by omega) (by omega)
  obtain ⟨x1, hx1⟩ : ∃ x, x = xs (Int32.toNatClampNeg (nI i + 1)) := ⟨_, rfl⟩
  obtain ⟨t, r, v0', e1, e2, hR1, hk⟩ := q_cars x1 hR
  have hk1 : t.1 = 0 ∧ v0' 8 = 0 ∨ t.1 = 2 ∧ v0' 8 = 1 := hk.imp (fun h => ⟨h.1, h.2.1⟩) id
  have hv : v0' 8 = 0 → t.2 = r := fun c9 => by
    rcases hk with ⟨_, _, h⟩ | ⟨_, h⟩
    · exact h
    · rw [h] at c9; exact absurd c9 (by decide)
  refine lv_aload_n hx hb dL_law_1138 rfl (lv_at hl 1 rfl) ?_
  refine lv_aload_n hx hb dL_law_1139 rfl (lv_at hl 0 rfl) ?_
  refine lv_iload hx hb dL_law_1140 (lv_at hl 4 rfl) ?_
  refine lv_iconst (v := 1) hx hb dL_law_1142 (by decide) ?_
  refine lv_iadd hx hb dL_law_1143 ?_
  refine va_sld hx hb hX hbl hbA hH.2.2.2 hi1 dL_law_1144 ?_
  rw [← hx1]
  refine lv_aload_n hx hb dL_law_1145 rfl (lv_at hl 3 rfl) ?_
  refine kL F hH (h6_cars l hI hl0 H.size ⟨va_at.lt (hH.2.2.1 0 _ rfl), hao⟩ x1 e1 hk1) (vx_cwSW 3 hts qL_157 rfl rfl rfl (by decide +kernel) ⟨Nat.le_of_ble_eq_true rfl, Nat.le_of_ble_eq_true rfl⟩) rfl hl.1 rfl (Nat.le_of_ble_eq_true rfl) dL_law_1146 hc (fun H locs g hg hH => ?_)
  refine lv_istore (lv' := [(5, .int (v0' 8)), (0, .ref b), (1, .ref (ad 150)), (2, .ref (bd 0)), (3, .ref o), (4, .int (nI i))]) hx hb dL_law_1149 hl (by decide) rfl (fun ls hl => ?_)
  refine lv_aload_n hx hb dL_law_1151 rfl (lv_at hl 3 rfl) ?_
  refine lv_aload_n hx hb dL_law_1152 rfl (lv_at hl 1 rfl) ?_
  refine lv_iload hx hb dL_law_1153 (lv_at hl 5 rfl) ?_
  refine lv_iconst (v := 1) hx hb dL_law_1155 (by decide) ?_
  refine lv_iadd hx hb dL_law_1156 ?_
  refine va_sld hx hb hX hbl hbA hH.2.2.2 hi1 dL_law_1157 ?_
  rw [← hx1]
  refine kM F hH (c5_cars l hJ H.size x1 e2) (cwV 1 hts qL_159 rfl rfl rfl (by decide +kernel) ⟨Nat.le_of_ble_eq_true rfl, Nat.le_of_ble_eq_true rfl⟩) rfl hl.1 rfl (Nat.le_of_ble_eq_true rfl) dL_law_1158 ⟨by omega, by omega⟩ (fun H locs (hH : lH D Y cI cZ cL ad bd o mu g v0' v1 v2 v3 v4 v5 v6 v7 v8 s H locs) => ?_)
  refine lv_istore (lv' := [(6, .int r), (5, .int (v0' 8)), (0, .ref b), (1, .ref (ad 150)), (2, .ref (bd 0)), (3, .ref o), (4, .int (nI i))]) hx hb dL_law_1161 hl (by decide) rfl (fun ls hl => ?_)
  refine lv_aload_n hx hb dL_law_1163 rfl (lv_at hl 4 rfl) ?_
  refine kT F hH hl.1 rfl (Nat.le_of_ble_eq_true rfl) dL_law_1164 ⟨by omega, by omega⟩ ?_
  refine lv_iload hx hb dL_law_1167 (lv_at hl 1 rfl) ?_
  refine lv_icmp_eq (tgt := 1174) hx hb dL_law_1169 (by decide) (fun c1 => ?_) (fun c1 => absurd rfl c1)
  refine lv_iload hx hb dL_law_1174 (lv_at hl 1 rfl) ?_
  refine lv_if_ne (tgt := 1191) hx hb dL_law_1176 (by decide) (fun c2 => ?_) (fun c2 => ?_)
  · refine lv_goto (tgt := 1637) hx hb dL_law_1191 (by decide) ?_
    exact kk mu g v0' v1 v2 v3 v4 v5 v6 v7 v8 H locs ls hH hR1 (lv_sub hl [2, 3, 4, 5, 6] rfl)
  · refine lv_aload_n hx hb dL_law_1179 rfl (lv_at hl 5 rfl) ?_
    refine lv_iconst (v := 0) hx hb dL_law_1180 (by decide) ?_
    refine va_lald hx hb hKo hH.2.2.1 0 0 rfl rfl (vp_in_nI (n := 0) (by omega) (by omega)) dL_law_1181 ?_
    refine lv_iload hx hb dL_law_1182 (lv_at hl 0 rfl) ?_
    refine lv_i2l hx hb dL_law_1184 rfl ?_
    refine W.lcmp hx hb dL_law_1185 ?_
    refine lv_if_eq (tgt := 1191) hx hb dL_law_1186 (by decide) (fun c3 => ?_) (fun c3 => absurd (lg_same (show g (Int32.toNatClampNeg 0) = r.toInt64 from (hg c2).trans (by rw [hv c2]))) c3)
    refine lv_goto (tgt := 1637) hx hb dL_law_1191 (by decide) ?_
    exact kk mu g v0' v1 v2 v3 v4 v5 v6 v7 v8 H locs ls hH hR1 (lv_sub hl [2, 3, 4, 5, 6] rfl)
set_option maxRecDepth 100000 in
set_option maxHeartbeats 4000000 in
theorem lc_rolling (F : lF D Y cI cZ cL ad bd o p l s m #[Value.ref b] c) (hX : va_X b L xs s s.heap) (hbl : b < s.heap.size) (hH : lH D Y cI cZ cL ad bd o mu f v0 v1 v2 v3 v4 v5 v6 v7 v8 s H locs) (hR : Rel mu v0 v1 v3 v4 v5 v6) (hc : cells + 3 ≤ 601024 ∧ slots + 18 ≤ 7293034) (hL : L ≤ 2048) (hi : i + 3 < L) (hl : lv_has ls 9 [(0, .ref b), (1, .ref (ad 150)), (2, .ref (bd 0)), (3, .ref o), (4, .int (nI i))]) (kk : lK D Y cI cZ cL ad bd o p l e s m below meth c b i (cells + 3) (slots + 18) Q) : W p l e room_1 s m #[Value.ref b] below meth c H locs cells slots Q (F0 m 1194 ls []) := by
  obtain ⟨SF, hl0, ⟨hI, hJ, hab, hao, hbo⟩, ⟨ha0, hb0, ho0⟩, ⟨hK, hKm, hKo⟩, hz, hn0⟩ := id F
  have hx := SF.1
  have hb := SF.2.1
  have hts := SF.2.2.2.2
  have hbA : ¬ (fun q : Nat => s.heap.size ≤ q) b := Nat.not_le.mpr hbl
  have hi1 : vp_in (nI i + 1) L := by rw [show nI i + 1 = nI (i + 1) from nI_add i 1]; exact vp_in_nI (by omega) (by omega)
  obtain ⟨x1, hx1⟩ : ∃ x, x = xs (Int32.toNatClampNeg (nI i + 1)) := ⟨_, rfl⟩
  obtain ⟨t, r, v0', v7', e1, e2, hR1, hk⟩ := q_rolling (v7 := v7) x1 hR
  have hk1 : t.1 = 0 ∧ v0' 8 = 0 ∨ t.1 = 2 ∧ v0' 8 = 1 := hk.imp (fun h => ⟨h.1, h.2.1⟩) id
  have hv : v0' 8 = 0 → t.2 = r := fun c9 => by
    rcases hk with ⟨_, _, h⟩ | ⟨_, h⟩
    · exact h
    · rw [h] at c9; exact absurd c9 (by decide)
  refine lv_aload_n hx hb dL_law_1194 rfl (lv_at hl 1 rfl) ?_
  refine lv_aload_n hx hb dL_law_1195 rfl (lv_at hl 0 rfl) ?_
  refine lv_iload hx hb dL_law_1196 (lv_at hl 4 rfl) ?_
  refine lv_iconst (v := 1) hx hb dL_law_1198 (by decide) ?_
  refine lv_iadd hx hb dL_law_1199 ?_
  refine va_sld hx hb hX hbl hbA hH.2.2.2 hi1 dL_law_1200 ?_
  rw [← hx1]
  refine lv_aload_n hx hb dL_law_1201 rfl (lv_at hl 3 rfl) ?_
  refine kL F hH (h6_rolling l hI hl0 H.size ⟨va_at.lt (hH.2.2.1 0 _ rfl), hao⟩ x1 e1 hk1) (vx_cwSW 3 hts qL_160 rfl rfl rfl (by decide +kernel) ⟨Nat.le_of_ble_eq_true rfl, Nat.le_of_ble_eq_true rfl⟩) rfl hl.1 rfl (Nat.le_of_ble_eq_true rfl) dL_law_1202 hc (fun H locs g hg hH => ?_)
  refine lv_istore (lv' := [(5, .int (v0' 8)), (0, .ref b), (1, .ref (ad 150)), (2, .ref (bd 0)), (3, .ref o), (4, .int (nI i))]) hx hb dL_law_1205 hl (by decide) rfl (fun ls hl => ?_)
  refine lv_aload_n hx hb dL_law_1207 rfl (lv_at hl 3 rfl) ?_
  refine lv_aload_n hx hb dL_law_1208 rfl (lv_at hl 1 rfl) ?_
  refine lv_iload hx hb dL_law_1209 (lv_at hl 5 rfl) ?_
  refine lv_iconst (v := 1) hx hb dL_law_1211 (by decide) ?_
  refine lv_iadd hx hb dL_law_1212 ?_
  refine va_sld hx hb hX hbl hbA hH.2.2.2 hi1 dL_law_1213 ?_
  rw [← hx1]
  refine kM F hH (c5_rolling l hJ H.size x1 e2) (cwV 1 hts qL_162 rfl rfl rfl (by decide +kernel) ⟨Nat.le_of_ble_eq_true rfl, Nat.le_of_ble_eq_true rfl⟩) rfl hl.1 rfl (Nat.le_of_ble_eq_true rfl) dL_law_1214 ⟨by omega, by omega⟩ (fun H locs (hH : lH D Y cI cZ cL ad bd o mu g v0' v1 v2 v3 v4 v5 v6 v7' v8 s H locs) => ?_)
  refine lv_istore (lv' := [(6, .int r), (5, .int (v0' 8)), (0, .ref b), (1, .ref (ad 150)), (2, .ref (bd 0)), (3, .ref o), (4, .int (nI i))]) hx hb dL_law_1217 hl (by decide) rfl (fun ls hl => ?_)
  refine lv_aload_n hx hb dL_law_1219 rfl (lv_at hl 4 rfl) ?_
  refine kT F hH hl.1 rfl (Nat.le_of_ble_eq_true rfl) dL_law_1220 ⟨by omega, by omega⟩ ?_
  refine lv_iload hx hb dL_law_1223 (lv_at hl 1 rfl) ?_
  refine lv_icmp_eq (tgt := 1230) hx hb dL_law_1225 (by decide) (fun c1 => ?_) (fun c1 => absurd rfl c1)
  refine lv_iload hx hb dL_law_1230 (lv_at hl 1 rfl) ?_
  refine lv_if_ne (tgt := 1247) hx hb dL_law_1232 (by decide) (fun c2 => ?_) (fun c2 => ?_)
  · refine lv_goto (tgt := 1637) hx hb dL_law_1247 (by decide) ?_
    exact kk mu g v0' v1 v2 v3 v4 v5 v6 v7' v8 H locs ls hH hR1 (lv_sub hl [2, 3, 4, 5, 6] rfl)
  · refine lv_aload_n hx hb dL_law_1235 rfl (lv_at hl 5 rfl) ?_
    refine lv_iconst (v := 0) hx hb dL_law_1236 (by decide) ?_
    refine va_lald hx hb hKo hH.2.2.1 0 0 rfl rfl (vp_in_nI (n := 0) (by omega) (by omega)) dL_law_1237 ?_
    refine lv_iload hx hb dL_law_1238 (lv_at hl 0 rfl) ?_
    refine lv_i2l hx hb dL_law_1240 rfl ?_
    refine W.lcmp hx hb dL_law_1241 ?_
    refine lv_if_eq (tgt := 1247) hx hb dL_law_1242 (by decide) (fun c3 => ?_) (fun c3 => absurd (lg_same (show g (Int32.toNatClampNeg 0) = r.toInt64 from (hg c2).trans (by rw [hv c2]))) c3)
    refine lv_goto (tgt := 1637) hx hb dL_law_1247 (by decide) ?_
    exact kk mu g v0' v1 v2 v3 v4 v5 v6 v7' v8 H locs ls hH hR1 (lv_sub hl [2, 3, 4, 5, 6] rfl)
set_option maxRecDepth 100000 in
set_option maxHeartbeats 4000000 in
theorem lc_count (F : lF D Y cI cZ cL ad bd o p l s m #[Value.ref b] c) (hX : va_X b L xs s s.heap) (hbl : b < s.heap.size) (hH : lH D Y cI cZ cL ad bd o mu f v0 v1 v2 v3 v4 v5 v6 v7 v8 s H locs) (hR : Rel mu v0 v1 v3 v4 v5 v6) (hc : cells + 3 ≤ 601024 ∧ slots + 18 ≤ 7293034) (hL : L ≤ 2048) (hi : i + 3 < L) (hl : lv_has ls 9 [(0, .ref b), (1, .ref (ad 150)), (2, .ref (bd 0)), (3, .ref o), (4, .int (nI i))]) (kk : lK D Y cI cZ cL ad bd o p l e s m below meth c b i (cells + 3) (slots + 18) Q) : W p l e room_1 s m #[Value.ref b] below meth c H locs cells slots Q (F0 m 1250 ls []) := by
  obtain ⟨SF, hl0, ⟨hI, hJ, hab, hao, hbo⟩, ⟨ha0, hb0, ho0⟩, ⟨hK, hKm, hKo⟩, hz, hn0⟩ := id F
  have hx := SF.1
  have hb := SF.2.1
  have hts := SF.2.2.2.2
  have hbA : ¬ (fun q : Nat => s.heap.size ≤ q) b := Nat.not_le.mpr hbl
  have hi1 : vp_in (nI i + 1) L := by rw [show nI i + 1 = nI (i + 1) from nI_add i 1]; exact vp_in_nI (by omega) (by omega)
  obtain ⟨x1, hx1⟩ : ∃ x, x = xs (Int32.toNatClampNeg (nI i + 1)) := ⟨_, rfl⟩
  obtain ⟨t, r, v0', e1, e2, hR1, hk⟩ := q_count x1 hR
  have hk1 : t.1 = 0 ∧ v0' 8 = 0 ∨ t.1 = 2 ∧ v0' 8 = 1 := hk.imp (fun h => ⟨h.1, h.2.1⟩) id
  have hv : v0' 8 = 0 → t.2 = r := fun c9 => by
    rcases hk with ⟨_, _, h⟩ | ⟨_, h⟩
    · exact h
    · rw [h] at c9; exact absurd c9 (by decide)
  refine lv_aload_n hx hb dL_law_1250 rfl (lv_at hl 1 rfl) ?_
  refine lv_aload_n hx hb dL_law_1251 rfl (lv_at hl 0 rfl) ?_
  refine lv_iload hx hb dL_law_1252 (lv_at hl 4 rfl) ?_
  refine lv_iconst (v := 1) hx hb dL_law_1254 (by decide) ?_
  refine lv_iadd hx hb dL_law_1255 ?_
  refine va_sld hx hb hX hbl hbA hH.2.2.2 hi1 dL_law_1256 ?_
  rw [← hx1]
  refine lv_aload_n hx hb dL_law_1257 rfl (lv_at hl 3 rfl) ?_
  refine kL F hH (h6_count l hI hl0 H.size ⟨va_at.lt (hH.2.2.1 0 _ rfl), hao⟩ x1 e1 hk1) (vx_cwSW 3 hts qL_163 rfl rfl rfl (by decide +kernel) ⟨Nat.le_of_ble_eq_true rfl, Nat.le_of_ble_eq_true rfl⟩) rfl hl.1 rfl (Nat.le_of_ble_eq_true rfl) dL_law_1258 hc (fun H locs g hg hH => ?_)
  refine lv_istore (lv' := [(5, .int (v0' 8)), (0, .ref b), (1, .ref (ad 150)), (2, .ref (bd 0)), (3, .ref o), (4, .int (nI i))]) hx hb dL_law_1261 hl (by decide) rfl (fun ls hl => ?_)
  refine lv_aload_n hx hb dL_law_1263 rfl (lv_at hl 3 rfl) ?_
  refine lv_aload_n hx hb dL_law_1264 rfl (lv_at hl 1 rfl) ?_
  refine lv_iload hx hb dL_law_1265 (lv_at hl 5 rfl) ?_
  refine lv_iconst (v := 1) hx hb dL_law_1267 (by decide) ?_
  refine lv_iadd hx hb dL_law_1268 ?_
  refine va_sld hx hb hX hbl hbA hH.2.2.2 hi1 dL_law_1269 ?_
  rw [← hx1]
  refine kM F hH (c5_count l hJ H.size x1 e2) (cwV 1 hts qL_165 rfl rfl rfl (by decide +kernel) ⟨Nat.le_of_ble_eq_true rfl, Nat.le_of_ble_eq_true rfl⟩) rfl hl.1 rfl (Nat.le_of_ble_eq_true rfl) dL_law_1270 ⟨by omega, by omega⟩ (fun H locs (hH : lH D Y cI cZ cL ad bd o mu g v0' v1 v2 v3 v4 v5 v6 v7 v8 s H locs) => ?_)
  refine lv_istore (lv' := [(6, .int r), (5, .int (v0' 8)), (0, .ref b), (1, .ref (ad 150)), (2, .ref (bd 0)), (3, .ref o), (4, .int (nI i))]) hx hb dL_law_1273 hl (by decide) rfl (fun ls hl => ?_)
  refine lv_aload_n hx hb dL_law_1275 rfl (lv_at hl 4 rfl) ?_
  refine kT F hH hl.1 rfl (Nat.le_of_ble_eq_true rfl) dL_law_1276 ⟨by omega, by omega⟩ ?_
  refine lv_iload hx hb dL_law_1279 (lv_at hl 1 rfl) ?_
  refine lv_icmp_eq (tgt := 1286) hx hb dL_law_1281 (by decide) (fun c1 => ?_) (fun c1 => absurd rfl c1)
  refine lv_iload hx hb dL_law_1286 (lv_at hl 1 rfl) ?_
  refine lv_if_ne (tgt := 1303) hx hb dL_law_1288 (by decide) (fun c2 => ?_) (fun c2 => ?_)
  · refine lv_goto (tgt := 1637) hx hb dL_law_1303 (by decide) ?_
    exact kk mu g v0' v1 v2 v3 v4 v5 v6 v7 v8 H locs ls hH hR1 (lv_sub hl [2, 3, 4, 5, 6] rfl)
  · refine lv_aload_n hx hb dL_law_1291 rfl (lv_at hl 5 rfl) ?_
    refine lv_iconst (v := 0) hx hb dL_law_1292 (by decide) ?_
    refine va_lald hx hb hKo hH.2.2.1 0 0 rfl rfl (vp_in_nI (n := 0) (by omega) (by omega)) dL_law_1293 ?_
    refine lv_iload hx hb dL_law_1294 (lv_at hl 0 rfl) ?_
    refine lv_i2l hx hb dL_law_1296 rfl ?_
    refine W.lcmp hx hb dL_law_1297 ?_
    refine lv_if_eq (tgt := 1303) hx hb dL_law_1298 (by decide) (fun c3 => ?_) (fun c3 => absurd (lg_same (show g (Int32.toNatClampNeg 0) = r.toInt64 from (hg c2).trans (by rw [hv c2]))) c3)
    refine lv_goto (tgt := 1637) hx hb dL_law_1303 (by decide) ?_
    exact kk mu g v0' v1 v2 v3 v4 v5 v6 v7 v8 H locs ls hH hR1 (lv_sub hl [2, 3, 4, 5, 6] rfl)
set_option maxRecDepth 100000 in
set_option maxHeartbeats 4000000 in
theorem lc_refusal_a (F : lF D Y cI cZ cL ad bd o p l s m #[Value.ref b] c) (hX : va_X b L xs s s.heap) (hbl : b < s.heap.size) (hH : lH D Y cI cZ cL ad bd o mu f v0 v1 v2 v3 v4 v5 v6 v7 v8 s H locs) (hR : Rel mu v0 v1 v3 v4 v5 v6) (hc : cells + 3 ≤ 601024 ∧ slots + 18 ≤ 7293034) (hL : L ≤ 2048) (hi : i + 3 < L) (hl : lv_has ls 9 [(0, .ref b), (1, .ref (ad 150)), (2, .ref (bd 0)), (3, .ref o), (4, .int (nI i))]) (kk : lK D Y cI cZ cL ad bd o p l e s m below meth c b i (cells + 3) (slots + 18) Q) (h0 : xs (Int32.toNatClampNeg (nI i + 2)) = 0) : W p l e room_1 s m #[Value.ref b] below meth c H locs cells slots Q (F0 m 1306 ls []) := by
  obtain ⟨SF, hl0, ⟨hI, hJ, hab, hao, hbo⟩, ⟨ha0, hb0, ho0⟩, ⟨hK, hKm, hKo⟩, hz, hn0⟩ := id F
  have hx := SF.1
  have hb := SF.2.1
  have hts := SF.2.2.2.2
  have hbA : ¬ (fun q : Nat => s.heap.size ≤ q) b := Nat.not_le.mpr hbl
  have hi1 : vp_in (nI i + 1) L := by rw [show nI i + 1 = nI (i + 1) from nI_add i 1]; exact vp_in_nI (by omega) (by omega)
  obtain ⟨x1, hx1⟩ : ∃ x, x = xs (Int32.toNatClampNeg (nI i + 1)) := ⟨_, rfl⟩
  have hi2 : vp_in (nI i + 2) L := by rw [show nI i + 2 = nI (i + 2) from nI_add i 2]; exact vp_in_nI (by omega) (by omega)
  obtain ⟨x2, hx2⟩ : ∃ x, x = xs (Int32.toNatClampNeg (nI i + 2)) := ⟨_, rfl⟩
  rw [← hx2] at h0
  obtain ⟨t, r, v0', e1, e2, hR1, hk⟩ := q_refusal x1 0 hR
  have hk1 : t.1 = 0 ∧ v0' 8 = 0 ∨ t.1 = 1 ∧ v0' 8 = 1 := hk.imp (fun h => ⟨h.1, h.2.1⟩) id
  have hv : v0' 8 = 0 → t.2 = r := fun c9 => by
    rcases hk with ⟨_, _, h⟩ | ⟨_, h⟩
    · exact h
    · rw [h] at c9; exact absurd c9 (by decide)
  refine lv_aload_n hx hb dL_law_1306 rfl (lv_at hl 1 rfl) ?_
  refine lv_aload_n hx hb dL_law_1307 rfl (lv_at hl 0 rfl) ?_
  refine lv_iload hx hb dL_law_1308 (lv_at hl 4 rfl) ?_
  refine lv_iconst (v := 1) hx hb dL_law_1310 (by decide) ?_
  refine lv_iadd hx hb dL_law_1311 ?_
  refine va_sld hx hb hX hbl hbA hH.2.2.2 hi1 dL_law_1312 ?_
  rw [← hx1]
  refine lv_aload_n hx hb dL_law_1313 rfl (lv_at hl 0 rfl) ?_
  refine lv_iload hx hb dL_law_1314 (lv_at hl 4 rfl) ?_
  refine lv_iconst (v := 2) hx hb dL_law_1316 (by decide) ?_
  refine lv_iadd hx hb dL_law_1317 ?_
  refine va_sld hx hb hX hbl hbA hH.2.2.2 hi2 dL_law_1318 ?_
  rw [← hx2]
  refine lv_if_eq (tgt := 1326) hx hb dL_law_1319 (by decide) (fun c8 => ?_) (fun c8 => absurd h0 c8)
  refine lv_iconst (v := 0) hx hb dL_law_1326 (by decide) ?_
  refine lv_aload_n hx hb dL_law_1327 rfl (lv_at hl 3 rfl) ?_
  refine kL F hH (h6_refusal l hI hl0 H.size ⟨va_at.lt (hH.2.2.1 0 _ rfl), hao⟩ x1 0 e1 hk1) (vx_cwSW 4 hts qL_166 rfl rfl rfl (by decide +kernel) ⟨Nat.le_of_ble_eq_true rfl, Nat.le_of_ble_eq_true rfl⟩) rfl hl.1 rfl (Nat.le_of_ble_eq_true rfl) dL_law_1328 hc (fun H locs g hg hH => ?_)
  refine lv_istore (lv' := [(5, .int (v0' 8)), (0, .ref b), (1, .ref (ad 150)), (2, .ref (bd 0)), (3, .ref o), (4, .int (nI i))]) hx hb dL_law_1331 hl (by decide) rfl (fun ls hl => ?_)
  refine lv_aload_n hx hb dL_law_1333 rfl (lv_at hl 3 rfl) ?_
  refine lv_aload_n hx hb dL_law_1334 rfl (lv_at hl 1 rfl) ?_
  refine lv_iload hx hb dL_law_1335 (lv_at hl 5 rfl) ?_
  refine lv_iconst (v := 1) hx hb dL_law_1337 (by decide) ?_
  refine lv_iadd hx hb dL_law_1338 ?_
  refine va_sld hx hb hX hbl hbA hH.2.2.2 hi1 dL_law_1339 ?_
  rw [← hx1]
  refine lv_aload_n hx hb dL_law_1340 rfl (lv_at hl 1 rfl) ?_
  refine lv_iload hx hb dL_law_1341 (lv_at hl 5 rfl) ?_
  refine lv_iconst (v := 2) hx hb dL_law_1343 (by decide) ?_
  refine lv_iadd hx hb dL_law_1344 ?_
  refine va_sld hx hb hX hbl hbA hH.2.2.2 hi2 dL_law_1345 ?_
  rw [← hx2]
  refine lv_if_eq (tgt := 1353) hx hb dL_law_1346 (by decide) (fun c8 => ?_) (fun c8 => absurd h0 c8)
  refine lv_iconst (v := 0) hx hb dL_law_1353 (by decide) ?_
  refine kM F hH (c5_refusal l hJ H.size x1 0 e2) (cwV 2 hts qL_169 rfl rfl rfl (by decide +kernel) ⟨Nat.le_of_ble_eq_true rfl, Nat.le_of_ble_eq_true rfl⟩) rfl hl.1 rfl (Nat.le_of_ble_eq_true rfl) dL_law_1354 ⟨by omega, by omega⟩ (fun H locs (hH : lH D Y cI cZ cL ad bd o mu g v0' v1 v2 v3 v4 v5 v6 v7 v8 s H locs) => ?_)
  refine lv_istore (lv' := [(6, .int r), (5, .int (v0' 8)), (0, .ref b), (1, .ref (ad 150)), (2, .ref (bd 0)), (3, .ref o), (4, .int (nI i))]) hx hb dL_law_1357 hl (by decide) rfl (fun ls hl => ?_)
  refine lv_aload_n hx hb dL_law_1359 rfl (lv_at hl 4 rfl) ?_
  refine kT F hH hl.1 rfl (Nat.le_of_ble_eq_true rfl) dL_law_1360 ⟨by omega, by omega⟩ ?_
  refine lv_iload hx hb dL_law_1363 (lv_at hl 1 rfl) ?_
  refine lv_icmp_eq (tgt := 1370) hx hb dL_law_1365 (by decide) (fun c1 => ?_) (fun c1 => absurd rfl c1)
  refine lv_iload hx hb dL_law_1370 (lv_at hl 1 rfl) ?_
  refine lv_if_ne (tgt := 1387) hx hb dL_law_1372 (by decide) (fun c2 => ?_) (fun c2 => ?_)
  · refine lv_goto (tgt := 1637) hx hb dL_law_1387 (by decide) ?_
    exact kk mu g v0' v1 v2 v3 v4 v5 v6 v7 v8 H locs ls hH hR1 (lv_sub hl [2, 3, 4, 5, 6] rfl)
  · refine lv_aload_n hx hb dL_law_1375 rfl (lv_at hl 5 rfl) ?_
    refine lv_iconst (v := 0) hx hb dL_law_1376 (by decide) ?_
    refine va_lald hx hb hKo hH.2.2.1 0 0 rfl rfl (vp_in_nI (n := 0) (by omega) (by omega)) dL_law_1377 ?_
    refine lv_iload hx hb dL_law_1378 (lv_at hl 0 rfl) ?_
    refine lv_i2l hx hb dL_law_1380 rfl ?_
    refine W.lcmp hx hb dL_law_1381 ?_
    refine lv_if_eq (tgt := 1387) hx hb dL_law_1382 (by decide) (fun c3 => ?_) (fun c3 => absurd (lg_same (show g (Int32.toNatClampNeg 0) = r.toInt64 from (hg c2).trans (by rw [hv c2]))) c3)
    refine lv_goto (tgt := 1637) hx hb dL_law_1387 (by decide) ?_
    exact kk mu g v0' v1 v2 v3 v4 v5 v6 v7 v8 H locs ls hH hR1 (lv_sub hl [2, 3, 4, 5, 6] rfl)
set_option maxRecDepth 100000 in
set_option maxHeartbeats 4000000 in
theorem lc_refusal_b (F : lF D Y cI cZ cL ad bd o p l s m #[Value.ref b] c) (hX : va_X b L xs s s.heap) (hbl : b < s.heap.size) (hH : lH D Y cI cZ cL ad bd o mu f v0 v1 v2 v3 v4 v5 v6 v7 v8 s H locs) (hR : Rel mu v0 v1 v3 v4 v5 v6) (hc : cells + 3 ≤ 601024 ∧ slots + 18 ≤ 7293034) (hL : L ≤ 2048) (hi : i + 3 < L) (hl : lv_has ls 9 [(0, .ref b), (1, .ref (ad 150)), (2, .ref (bd 0)), (3, .ref o), (4, .int (nI i))]) (kk : lK D Y cI cZ cL ad bd o p l e s m below meth c b i (cells + 3) (slots + 18) Q) (h0 : ¬ xs (Int32.toNatClampNeg (nI i + 2)) = 0) : W p l e room_1 s m #[Value.ref b] below meth c H locs cells slots Q (F0 m 1306 ls []) := by
  obtain ⟨SF, hl0, ⟨hI, hJ, hab, hao, hbo⟩, ⟨ha0, hb0, ho0⟩, ⟨hK, hKm, hKo⟩, hz, hn0⟩ := id F
  have hx := SF.1
  have hb := SF.2.1
  have hts := SF.2.2.2.2
  have hbA : ¬ (fun q : Nat => s.heap.size ≤ q) b := Nat.not_le.mpr hbl
  have hi1 : vp_in (nI i + 1) L := by rw [show nI i + 1 = nI (i + 1) from nI_add i 1]; exact vp_in_nI (by omega) (by omega)
  obtain ⟨x1, hx1⟩ : ∃ x, x = xs (Int32.toNatClampNeg (nI i + 1)) := ⟨_, rfl⟩
  have hi2 : vp_in (nI i + 2) L := by rw [show nI i + 2 = nI (i + 2) from nI_add i 2]; exact vp_in_nI (by omega) (by omega)
  obtain ⟨x2, hx2⟩ : ∃ x, x = xs (Int32.toNatClampNeg (nI i + 2)) := ⟨_, rfl⟩
  rw [← hx2] at h0
  obtain ⟨t, r, v0', e1, e2, hR1, hk⟩ := q_refusal x1 1 hR
  have hk1 : t.1 = 0 ∧ v0' 8 = 0 ∨ t.1 = 1 ∧ v0' 8 = 1 := hk.imp (fun h => ⟨h.1, h.2.1⟩) id
  have hv : v0' 8 = 0 → t.2 = r := fun c9 => by
    rcases hk with ⟨_, _, h⟩ | ⟨_, h⟩
    · exact h
    · rw [h] at c9; exact absurd c9 (by decide)
  refine lv_aload_n hx hb dL_law_1306 rfl (lv_at hl 1 rfl) ?_
  refine lv_aload_n hx hb dL_law_1307 rfl (lv_at hl 0 rfl) ?_
  refine lv_iload hx hb dL_law_1308 (lv_at hl 4 rfl) ?_
  refine lv_iconst (v := 1) hx hb dL_law_1310 (by decide) ?_
  refine lv_iadd hx hb dL_law_1311 ?_
  refine va_sld hx hb hX hbl hbA hH.2.2.2 hi1 dL_law_1312 ?_
  rw [← hx1]
  refine lv_aload_n hx hb dL_law_1313 rfl (lv_at hl 0 rfl) ?_
  refine lv_iload hx hb dL_law_1314 (lv_at hl 4 rfl) ?_
  refine lv_iconst (v := 2) hx hb dL_law_1316 (by decide) ?_
  refine lv_iadd hx hb dL_law_1317 ?_
  refine va_sld hx hb hX hbl hbA hH.2.2.2 hi2 dL_law_1318 ?_
  rw [← hx2]
  refine lv_if_eq (tgt := 1326) hx hb dL_law_1319 (by decide) (fun c8 => absurd c8 h0) (fun c8 => ?_)
  refine lv_iconst (v := 1) hx hb dL_law_1322 (by decide) ?_
  refine lv_goto (tgt := 1327) hx hb dL_law_1323 (by decide) ?_
  refine lv_aload_n hx hb dL_law_1327 rfl (lv_at hl 3 rfl) ?_
  refine kL F hH (h6_refusal l hI hl0 H.size ⟨va_at.lt (hH.2.2.1 0 _ rfl), hao⟩ x1 1 e1 hk1) (vx_cwSW 4 hts qL_166 rfl rfl rfl (by decide +kernel) ⟨Nat.le_of_ble_eq_true rfl, Nat.le_of_ble_eq_true rfl⟩) rfl hl.1 rfl (Nat.le_of_ble_eq_true rfl) dL_law_1328 hc (fun H locs g hg hH => ?_)
  refine lv_istore (lv' := [(5, .int (v0' 8)), (0, .ref b), (1, .ref (ad 150)), (2, .ref (bd 0)), (3, .ref o), (4, .int (nI i))]) hx hb dL_law_1331 hl (by decide) rfl (fun ls hl => ?_)
  refine lv_aload_n hx hb dL_law_1333 rfl (lv_at hl 3 rfl) ?_
  refine lv_aload_n hx hb dL_law_1334 rfl (lv_at hl 1 rfl) ?_
  refine lv_iload hx hb dL_law_1335 (lv_at hl 5 rfl) ?_
  refine lv_iconst (v := 1) hx hb dL_law_1337 (by decide) ?_
  refine lv_iadd hx hb dL_law_1338 ?_
  refine va_sld hx hb hX hbl hbA hH.2.2.2 hi1 dL_law_1339 ?_
  rw [← hx1]
  refine lv_aload_n hx hb dL_law_1340 rfl (lv_at hl 1 rfl) ?_
  refine lv_iload hx hb dL_law_1341 (lv_at hl 5 rfl) ?_
  refine lv_iconst (v := 2) hx hb dL_law_1343 (by decide) ?_
  refine lv_iadd hx hb dL_law_1344 ?_
  refine va_sld hx hb hX hbl hbA hH.2.2.2 hi2 dL_law_1345 ?_
  rw [← hx2]
  refine lv_if_eq (tgt := 1353) hx hb dL_law_1346 (by decide) (fun c8 => absurd c8 h0) (fun c8 => ?_)
  refine lv_iconst (v := 1) hx hb dL_law_1349 (by decide) ?_
  refine lv_goto (tgt := 1354) hx hb dL_law_1350 (by decide) ?_
  refine kM F hH (c5_refusal l hJ H.size x1 1 e2) (cwV 2 hts qL_169 rfl rfl rfl (by decide +kernel) ⟨Nat.le_of_ble_eq_true rfl, Nat.le_of_ble_eq_true rfl⟩) rfl hl.1 rfl (Nat.le_of_ble_eq_true rfl) dL_law_1354 ⟨by omega, by omega⟩ (fun H locs (hH : lH D Y cI cZ cL ad bd o mu g v0' v1 v2 v3 v4 v5 v6 v7 v8 s H locs) => ?_)
  refine lv_istore (lv' := [(6, .int r), (5, .int (v0' 8)), (0, .ref b), (1, .ref (ad 150)), (2, .ref (bd 0)), (3, .ref o), (4, .int (nI i))]) hx hb dL_law_1357 hl (by decide) rfl (fun ls hl => ?_)
  refine lv_aload_n hx hb dL_law_1359 rfl (lv_at hl 4 rfl) ?_
  refine kT F hH hl.1 rfl (Nat.le_of_ble_eq_true rfl) dL_law_1360 ⟨by omega, by omega⟩ ?_
  refine lv_iload hx hb dL_law_1363 (lv_at hl 1 rfl) ?_
  refine lv_icmp_eq (tgt := 1370) hx hb dL_law_1365 (by decide) (fun c1 => ?_) (fun c1 => absurd rfl c1)
  refine lv_iload hx hb dL_law_1370 (lv_at hl 1 rfl) ?_
  refine lv_if_ne (tgt := 1387) hx hb dL_law_1372 (by decide) (fun c2 => ?_) (fun c2 => ?_)
  · refine lv_goto (tgt := 1637) hx hb dL_law_1387 (by decide) ?_
    exact kk mu g v0' v1 v2 v3 v4 v5 v6 v7 v8 H locs ls hH hR1 (lv_sub hl [2, 3, 4, 5, 6] rfl)
  · refine lv_aload_n hx hb dL_law_1375 rfl (lv_at hl 5 rfl) ?_
    refine lv_iconst (v := 0) hx hb dL_law_1376 (by decide) ?_
    refine va_lald hx hb hKo hH.2.2.1 0 0 rfl rfl (vp_in_nI (n := 0) (by omega) (by omega)) dL_law_1377 ?_
    refine lv_iload hx hb dL_law_1378 (lv_at hl 0 rfl) ?_
    refine lv_i2l hx hb dL_law_1380 rfl ?_
    refine W.lcmp hx hb dL_law_1381 ?_
    refine lv_if_eq (tgt := 1387) hx hb dL_law_1382 (by decide) (fun c3 => ?_) (fun c3 => absurd (lg_same (show g (Int32.toNatClampNeg 0) = r.toInt64 from (hg c2).trans (by rw [hv c2]))) c3)
    refine lv_goto (tgt := 1637) hx hb dL_law_1387 (by decide) ?_
    exact kk mu g v0' v1 v2 v3 v4 v5 v6 v7 v8 H locs ls hH hR1 (lv_sub hl [2, 3, 4, 5, 6] rfl)
set_option maxRecDepth 100000 in
set_option maxHeartbeats 4000000 in
theorem lc_ifAlone (F : lF D Y cI cZ cL ad bd o p l s m #[Value.ref b] c) (hX : va_X b L xs s s.heap) (hbl : b < s.heap.size) (hH : lH D Y cI cZ cL ad bd o mu f v0 v1 v2 v3 v4 v5 v6 v7 v8 s H locs) (hR : Rel mu v0 v1 v3 v4 v5 v6) (hc : cells + 3 ≤ 601024 ∧ slots + 18 ≤ 7293034) (hL : L ≤ 2048) (hi : i + 3 < L) (hl : lv_has ls 9 [(0, .ref b), (1, .ref (ad 150)), (2, .ref (bd 0)), (3, .ref o), (4, .int (nI i))]) (kk : lK D Y cI cZ cL ad bd o p l e s m below meth c b i (cells + 3) (slots + 18) Q) : W p l e room_1 s m #[Value.ref b] below meth c H locs cells slots Q (F0 m 1390 ls []) := by
  obtain ⟨SF, hl0, ⟨hI, hJ, hab, hao, hbo⟩, ⟨ha0, hb0, ho0⟩, ⟨hK, hKm, hKo⟩, hz, hn0⟩ := id F
  have hx := SF.1
  have hb := SF.2.1
  have hts := SF.2.2.2.2
  have hbA : ¬ (fun q : Nat => s.heap.size ≤ q) b := Nat.not_le.mpr hbl
  have hi1 : vp_in (nI i + 1) L := by rw [show nI i + 1 = nI (i + 1) from nI_add i 1]; exact vp_in_nI (by omega) (by omega)
  obtain ⟨x1, hx1⟩ : ∃ x, x = xs (Int32.toNatClampNeg (nI i + 1)) := ⟨_, rfl⟩
  have hi2 : vp_in (nI i + 2) L := by rw [show nI i + 2 = nI (i + 2) from nI_add i 2]; exact vp_in_nI (by omega) (by omega)
  obtain ⟨x2, hx2⟩ : ∃ x, x = xs (Int32.toNatClampNeg (nI i + 2)) := ⟨_, rfl⟩
  have hi3 : vp_in (nI i + 3) L := by rw [show nI i + 3 = nI (i + 3) from nI_add i 3]; exact vp_in_nI (by omega) (by omega)
  obtain ⟨x3, hx3⟩ : ∃ x, x = xs (Int32.toNatClampNeg (nI i + 3)) := ⟨_, rfl⟩
  obtain ⟨t, r, v0', v2', v7', v8', e1, e2, hR1, hk⟩ := q_ifAlone (v2 := v2) (v7 := v7) (v8 := v8) x1 x2 x3 hR
  have hk1 : t.1 = 0 ∧ v0' 8 = 0 ∨ t.1 = 2 ∧ v0' 8 = 1 := hk.imp (fun h => ⟨h.1, h.2.1⟩) id
  have hv : v0' 8 = 0 → t.2.1 = r := fun c9 => by
    rcases hk with ⟨_, _, h⟩ | ⟨_, h⟩
    · exact h
    · rw [h] at c9; exact absurd c9 (by decide)
  refine lv_aload_n hx hb dL_law_1390 rfl (lv_at hl 1 rfl) ?_
  refine lv_aload_n hx hb dL_law_1391 rfl (lv_at hl 0 rfl) ?_
  refine lv_iload hx hb dL_law_1392 (lv_at hl 4 rfl) ?_
  refine lv_iconst (v := 1) hx hb dL_law_1394 (by decide) ?_
  refine lv_iadd hx hb dL_law_1395 ?_
  refine va_sld hx hb hX hbl hbA hH.2.2.2 hi1 dL_law_1396 ?_
  rw [← hx1]
  refine lv_aload_n hx hb dL_law_1397 rfl (lv_at hl 0 rfl) ?_
  refine lv_iload hx hb dL_law_1398 (lv_at hl 4 rfl) ?_
  refine lv_iconst (v := 2) hx hb dL_law_1400 (by decide) ?_
  refine lv_iadd hx hb dL_law_1401 ?_
  refine va_sld hx hb hX hbl hbA hH.2.2.2 hi2 dL_law_1402 ?_
  rw [← hx2]
  refine lv_aload_n hx hb dL_law_1403 rfl (lv_at hl 0 rfl) ?_
  refine lv_iload hx hb dL_law_1404 (lv_at hl 4 rfl) ?_
  refine lv_iconst (v := 3) hx hb dL_law_1406 (by decide) ?_
  refine lv_iadd hx hb dL_law_1407 ?_
  refine va_sld hx hb hX hbl hbA hH.2.2.2 hi3 dL_law_1408 ?_
  rw [← hx3]
  refine lv_aload_n hx hb dL_law_1409 rfl (lv_at hl 3 rfl) ?_
  refine kL F hH (h6_ifAlone l hI hl0 H.size ⟨va_at.lt (hH.2.2.1 0 _ rfl), hao⟩ x1 x2 x3 e1 hk1) (vx_cwSW 5 hts qL_170 rfl rfl rfl (by decide +kernel) ⟨Nat.le_of_ble_eq_true rfl, Nat.le_of_ble_eq_true rfl⟩) rfl hl.1 rfl (Nat.le_of_ble_eq_true rfl) dL_law_1410 hc (fun H locs g hg hH => ?_)
  refine lv_istore (lv' := [(5, .int (v0' 8)), (0, .ref b), (1, .ref (ad 150)), (2, .ref (bd 0)), (3, .ref o), (4, .int (nI i))]) hx hb dL_law_1413 hl (by decide) rfl (fun ls hl => ?_)
  refine lv_aload_n hx hb dL_law_1415 rfl (lv_at hl 3 rfl) ?_
  refine lv_aload_n hx hb dL_law_1416 rfl (lv_at hl 1 rfl) ?_
  refine lv_iload hx hb dL_law_1417 (lv_at hl 5 rfl) ?_
  refine lv_iconst (v := 1) hx hb dL_law_1419 (by decide) ?_
  refine lv_iadd hx hb dL_law_1420 ?_
  refine va_sld hx hb hX hbl hbA hH.2.2.2 hi1 dL_law_1421 ?_
  rw [← hx1]
  refine lv_aload_n hx hb dL_law_1422 rfl (lv_at hl 1 rfl) ?_
  refine lv_iload hx hb dL_law_1423 (lv_at hl 5 rfl) ?_
  refine lv_iconst (v := 2) hx hb dL_law_1425 (by decide) ?_
  refine lv_iadd hx hb dL_law_1426 ?_
  refine va_sld hx hb hX hbl hbA hH.2.2.2 hi2 dL_law_1427 ?_
  rw [← hx2]
  refine lv_aload_n hx hb dL_law_1428 rfl (lv_at hl 1 rfl) ?_
  refine lv_iload hx hb dL_law_1429 (lv_at hl 5 rfl) ?_
  refine lv_iconst (v := 3) hx hb dL_law_1431 (by decide) ?_
  refine lv_iadd hx hb dL_law_1432 ?_
  refine va_sld hx hb hX hbl hbA hH.2.2.2 hi3 dL_law_1433 ?_
  rw [← hx3]
  refine kM F hH (c5_ifAlone l hJ H.size x1 x2 x3 e2) (cwV 3 hts qL_173 rfl rfl rfl (by decide +kernel) ⟨Nat.le_of_ble_eq_true rfl, Nat.le_of_ble_eq_true rfl⟩) rfl hl.1 rfl (Nat.le_of_ble_eq_true rfl) dL_law_1434 ⟨by omega, by omega⟩ (fun H locs (hH : lH D Y cI cZ cL ad bd o t.2.2 g v0' v1 v2' v3 v4 v5 v6 v7' v8' s H locs) => ?_)
  refine lv_istore (lv' := [(6, .int r), (5, .int (v0' 8)), (0, .ref b), (1, .ref (ad 150)), (2, .ref (bd 0)), (3, .ref o), (4, .int (nI i))]) hx hb dL_law_1437 hl (by decide) rfl (fun ls hl => ?_)
  refine lv_aload_n hx hb dL_law_1439 rfl (lv_at hl 4 rfl) ?_
  refine kT F hH hl.1 rfl (Nat.le_of_ble_eq_true rfl) dL_law_1440 ⟨by omega, by omega⟩ ?_
  refine lv_iload hx hb dL_law_1443 (lv_at hl 1 rfl) ?_
  refine lv_icmp_eq (tgt := 1450) hx hb dL_law_1445 (by decide) (fun c1 => ?_) (fun c1 => absurd rfl c1)
  refine lv_iload hx hb dL_law_1450 (lv_at hl 1 rfl) ?_
  refine lv_if_ne (tgt := 1467) hx hb dL_law_1452 (by decide) (fun c2 => ?_) (fun c2 => ?_)
  · refine lv_goto (tgt := 1637) hx hb dL_law_1467 (by decide) ?_
    exact kk t.2.2 g v0' v1 v2' v3 v4 v5 v6 v7' v8' H locs ls hH hR1 (lv_sub hl [2, 3, 4, 5, 6] rfl)
  · refine lv_aload_n hx hb dL_law_1455 rfl (lv_at hl 5 rfl) ?_
    refine lv_iconst (v := 0) hx hb dL_law_1456 (by decide) ?_
    refine va_lald hx hb hKo hH.2.2.1 0 0 rfl rfl (vp_in_nI (n := 0) (by omega) (by omega)) dL_law_1457 ?_
    refine lv_iload hx hb dL_law_1458 (lv_at hl 0 rfl) ?_
    refine lv_i2l hx hb dL_law_1460 rfl ?_
    refine W.lcmp hx hb dL_law_1461 ?_
    refine lv_if_eq (tgt := 1467) hx hb dL_law_1462 (by decide) (fun c3 => ?_) (fun c3 => absurd (lg_same (show g (Int32.toNatClampNeg 0) = r.toInt64 from (hg c2).trans (by rw [hv c2]))) c3)
    refine lv_goto (tgt := 1637) hx hb dL_law_1467 (by decide) ?_
    exact kk t.2.2 g v0' v1 v2' v3 v4 v5 v6 v7' v8' H locs ls hH hR1 (lv_sub hl [2, 3, 4, 5, 6] rfl)
set_option maxRecDepth 100000 in
set_option maxHeartbeats 4000000 in
theorem lc_leastBrake (F : lF D Y cI cZ cL ad bd o p l s m #[Value.ref b] c) (hX : va_X b L xs s s.heap) (hbl : b < s.heap.size) (hH : lH D Y cI cZ cL ad bd o mu f v0 v1 v2 v3 v4 v5 v6 v7 v8 s H locs) (hR : Rel mu v0 v1 v3 v4 v5 v6) (hc : cells + 3 ≤ 601024 ∧ slots + 18 ≤ 7293034) (hL : L ≤ 2048) (hi : i + 3 < L) (hl : lv_has ls 9 [(0, .ref b), (1, .ref (ad 150)), (2, .ref (bd 0)), (3, .ref o), (4, .int (nI i))]) (kk : lK D Y cI cZ cL ad bd o p l e s m below meth c b i (cells + 3) (slots + 18) Q) : W p l e room_1 s m #[Value.ref b] below meth c H locs cells slots Q (F0 m 1470 ls []) := by
  obtain ⟨SF, hl0, ⟨hI, hJ, hab, hao, hbo⟩, ⟨ha0, hb0, ho0⟩, ⟨hK, hKm, hKo⟩, hz, hn0⟩ := id F
  have hx := SF.1
  have hb := SF.2.1
  have hts := SF.2.2.2.2
  have hbA : ¬ (fun q : Nat => s.heap.size ≤ q) b := Nat.not_le.mpr hbl
  have hi1 : vp_in (nI i + 1) L := by rw [show nI i + 1 = nI (i + 1) from nI_add i 1]; exact vp_in_nI (by omega) (by omega)
  obtain ⟨x1, hx1⟩ : ∃ x, x = xs (Int32.toNatClampNeg (nI i + 1)) := ⟨_, rfl⟩
  obtain ⟨t, r, v0', v2', v7', v8', e1, e2, hR1, hk⟩ := q_leastBrake (v2 := v2) (v7 := v7) (v8 := v8) x1 hR
  have hk1 : t.1 = 0 ∧ v0' 8 = 0 ∨ t.1 = 2 ∧ v0' 8 = 1 := hk.imp (fun h => ⟨h.1, h.2.1⟩) id
  have hv : v0' 8 = 0 → t.2.1 = r := fun c9 => by
    rcases hk with ⟨_, _, h⟩ | ⟨_, h⟩
    · exact h
    · rw [h] at c9; exact absurd c9 (by decide)
  refine lv_aload_n hx hb dL_law_1470 rfl (lv_at hl 1 rfl) ?_
  refine lv_aload_n hx hb dL_law_1471 rfl (lv_at hl 0 rfl) ?_
  refine lv_iload hx hb dL_law_1472 (lv_at hl 4 rfl) ?_
  refine lv_iconst (v := 1) hx hb dL_law_1474 (by decide) ?_
  refine lv_iadd hx hb dL_law_1475 ?_
  refine va_sld hx hb hX hbl hbA hH.2.2.2 hi1 dL_law_1476 ?_
  rw [← hx1]
  refine lv_aload_n hx hb dL_law_1477 rfl (lv_at hl 3 rfl) ?_
  refine kL F hH (h6_leastBrake l hI hl0 H.size ⟨va_at.lt (hH.2.2.1 0 _ rfl), hao⟩ x1 e1 hk1) (vx_cwSW 3 hts qL_174 rfl rfl rfl (by decide +kernel) ⟨Nat.le_of_ble_eq_true rfl, Nat.le_of_ble_eq_true rfl⟩) rfl hl.1 rfl (Nat.le_of_ble_eq_true rfl) dL_law_1478 hc (fun H locs g hg hH => ?_)
  refine lv_istore (lv' := [(5, .int (v0' 8)), (0, .ref b), (1, .ref (ad 150)), (2, .ref (bd 0)), (3, .ref o), (4, .int (nI i))]) hx hb dL_law_1481 hl (by decide) rfl (fun ls hl => ?_)
  refine lv_aload_n hx hb dL_law_1483 rfl (lv_at hl 3 rfl) ?_
  refine lv_aload_n hx hb dL_law_1484 rfl (lv_at hl 1 rfl) ?_
  refine lv_iload hx hb dL_law_1485 (lv_at hl 5 rfl) ?_
  refine lv_iconst (v := 1) hx hb dL_law_1487 (by decide) ?_
  refine lv_iadd hx hb dL_law_1488 ?_
  refine va_sld hx hb hX hbl hbA hH.2.2.2 hi1 dL_law_1489 ?_
  rw [← hx1]
  refine kM F hH (c5_leastBrake l hJ H.size x1 e2) (cwV 1 hts qL_176 rfl rfl rfl (by decide +kernel) ⟨Nat.le_of_ble_eq_true rfl, Nat.le_of_ble_eq_true rfl⟩) rfl hl.1 rfl (Nat.le_of_ble_eq_true rfl) dL_law_1490 ⟨by omega, by omega⟩ (fun H locs (hH : lH D Y cI cZ cL ad bd o t.2.2 g v0' v1 v2' v3 v4 v5 v6 v7' v8' s H locs) => ?_)
  refine lv_istore (lv' := [(6, .int r), (5, .int (v0' 8)), (0, .ref b), (1, .ref (ad 150)), (2, .ref (bd 0)), (3, .ref o), (4, .int (nI i))]) hx hb dL_law_1493 hl (by decide) rfl (fun ls hl => ?_)
  refine lv_aload_n hx hb dL_law_1495 rfl (lv_at hl 4 rfl) ?_
  refine kT F hH hl.1 rfl (Nat.le_of_ble_eq_true rfl) dL_law_1496 ⟨by omega, by omega⟩ ?_
  refine lv_iload hx hb dL_law_1499 (lv_at hl 1 rfl) ?_
  refine lv_icmp_eq (tgt := 1506) hx hb dL_law_1501 (by decide) (fun c1 => ?_) (fun c1 => absurd rfl c1)
  refine lv_iload hx hb dL_law_1506 (lv_at hl 1 rfl) ?_
  refine lv_if_ne (tgt := 1523) hx hb dL_law_1508 (by decide) (fun c2 => ?_) (fun c2 => ?_)
  · refine lv_goto (tgt := 1637) hx hb dL_law_1523 (by decide) ?_
    exact kk t.2.2 g v0' v1 v2' v3 v4 v5 v6 v7' v8' H locs ls hH hR1 (lv_sub hl [2, 3, 4, 5, 6] rfl)
  · refine lv_aload_n hx hb dL_law_1511 rfl (lv_at hl 5 rfl) ?_
    refine lv_iconst (v := 0) hx hb dL_law_1512 (by decide) ?_
    refine va_lald hx hb hKo hH.2.2.1 0 0 rfl rfl (vp_in_nI (n := 0) (by omega) (by omega)) dL_law_1513 ?_
    refine lv_iload hx hb dL_law_1514 (lv_at hl 0 rfl) ?_
    refine lv_i2l hx hb dL_law_1516 rfl ?_
    refine W.lcmp hx hb dL_law_1517 ?_
    refine lv_if_eq (tgt := 1523) hx hb dL_law_1518 (by decide) (fun c3 => ?_) (fun c3 => absurd (lg_same (show g (Int32.toNatClampNeg 0) = r.toInt64 from (hg c2).trans (by rw [hv c2]))) c3)
    refine lv_goto (tgt := 1637) hx hb dL_law_1523 (by decide) ?_
    exact kk t.2.2 g v0' v1 v2' v3 v4 v5 v6 v7' v8' H locs ls hH hR1 (lv_sub hl [2, 3, 4, 5, 6] rfl)
set_option maxRecDepth 100000 in
set_option maxHeartbeats 4000000 in
theorem lc_ifRun (F : lF D Y cI cZ cL ad bd o p l s m #[Value.ref b] c) (hX : va_X b L xs s s.heap) (hbl : b < s.heap.size) (hH : lH D Y cI cZ cL ad bd o mu f v0 v1 v2 v3 v4 v5 v6 v7 v8 s H locs) (hR : Rel mu v0 v1 v3 v4 v5 v6) (hc : cells + 3 ≤ 601024 ∧ slots + 18 ≤ 7293034) (hL : L ≤ 2048) (hi : i + 3 < L) (hl : lv_has ls 9 [(0, .ref b), (1, .ref (ad 150)), (2, .ref (bd 0)), (3, .ref o), (4, .int (nI i))]) (kk : lK D Y cI cZ cL ad bd o p l e s m below meth c b i (cells + 3) (slots + 18) Q) : W p l e room_1 s m #[Value.ref b] below meth c H locs cells slots Q (F0 m 1526 ls []) := by
  obtain ⟨SF, hl0, ⟨hI, hJ, hab, hao, hbo⟩, ⟨ha0, hb0, ho0⟩, ⟨hK, hKm, hKo⟩, hz, hn0⟩ := id F
  have hx := SF.1
  have hb := SF.2.1
  have hts := SF.2.2.2.2
  have hbA : ¬ (fun q : Nat => s.heap.size ≤ q) b := Nat.not_le.mpr hbl
  have hi1 : vp_in (nI i + 1) L := by rw [show nI i + 1 = nI (i + 1) from nI_add i 1]; exact vp_in_nI (by omega) (by omega)
  obtain ⟨x1, hx1⟩ : ∃ x, x = xs (Int32.toNatClampNeg (nI i + 1)) := ⟨_, rfl⟩
  have hi2 : vp_in (nI i + 2) L := by rw [show nI i + 2 = nI (i + 2) from nI_add i 2]; exact vp_in_nI (by omega) (by omega)
  obtain ⟨x2, hx2⟩ : ∃ x, x = xs (Int32.toNatClampNeg (nI i + 2)) := ⟨_, rfl⟩
  obtain ⟨t, r, v0', v2', v7', v8', e1, e2, hR1, hk⟩ := q_ifRun (v2 := v2) (v7 := v7) (v8 := v8) x1 x2 hR
  have hk1 : t.1 = 0 ∧ v0' 8 = 0 ∨ t.1 = 2 ∧ v0' 8 = 1 := hk.imp (fun h => ⟨h.1, h.2.1⟩) id
  have hv : v0' 8 = 0 → t.2.1 = r := fun c9 => by
    rcases hk with ⟨_, _, h⟩ | ⟨_, h⟩
    · exact h
    · rw [h] at c9; exact absurd c9 (by decide)
  refine lv_aload_n hx hb dL_law_1526 rfl (lv_at hl 1 rfl) ?_
  refine lv_aload_n hx hb dL_law_1527 rfl (lv_at hl 0 rfl) ?_
  refine lv_iload hx hb dL_law_1528 (lv_at hl 4 rfl) ?_
  refine lv_iconst (v := 1) hx hb dL_law_1530 (by decide) ?_
  refine lv_iadd hx hb dL_law_1531 ?_
  refine va_sld hx hb hX hbl hbA hH.2.2.2 hi1 dL_law_1532 ?_
  rw [← hx1]
  refine lv_aload_n hx hb dL_law_1533 rfl (lv_at hl 0 rfl) ?_
  refine lv_iload hx hb dL_law_1534 (lv_at hl 4 rfl) ?_
  refine lv_iconst (v := 2) hx hb dL_law_1536 (by decide) ?_
  refine lv_iadd hx hb dL_law_1537 ?_
  refine va_sld hx hb hX hbl hbA hH.2.2.2 hi2 dL_law_1538 ?_
  rw [← hx2]
  refine lv_aload_n hx hb dL_law_1539 rfl (lv_at hl 3 rfl) ?_
  refine kL F hH (h6_ifRun l hI hl0 H.size ⟨va_at.lt (hH.2.2.1 0 _ rfl), hao⟩ x1 x2 e1 hk1) (vx_cwSW 4 hts qL_177 rfl rfl rfl (by decide +kernel) ⟨Nat.le_of_ble_eq_true rfl, Nat.le_of_ble_eq_true rfl⟩) rfl hl.1 rfl (Nat.le_of_ble_eq_true rfl) dL_law_1540 hc (fun H locs g hg hH => ?_)
  refine lv_istore (lv' := [(5, .int (v0' 8)), (0, .ref b), (1, .ref (ad 150)), (2, .ref (bd 0)), (3, .ref o), (4, .int (nI i))]) hx hb dL_law_1543 hl (by decide) rfl (fun ls hl => ?_)
  refine lv_aload_n hx hb dL_law_1545 rfl (lv_at hl 3 rfl) ?_
  refine lv_aload_n hx hb dL_law_1546 rfl (lv_at hl 1 rfl) ?_
  refine lv_iload hx hb dL_law_1547 (lv_at hl 5 rfl) ?_
  refine lv_iconst (v := 1) hx hb dL_law_1549 (by decide) ?_
  refine lv_iadd hx hb dL_law_1550 ?_
  refine va_sld hx hb hX hbl hbA hH.2.2.2 hi1 dL_law_1551 ?_
  rw [← hx1]
  refine lv_aload_n hx hb dL_law_1552 rfl (lv_at hl 1 rfl) ?_
  refine lv_iload hx hb dL_law_1553 (lv_at hl 5 rfl) ?_
  refine lv_iconst (v := 2) hx hb dL_law_1555 (by decide) ?_
  refine lv_iadd hx hb dL_law_1556 ?_
  refine va_sld hx hb hX hbl hbA hH.2.2.2 hi2 dL_law_1557 ?_
  rw [← hx2]
  refine kM F hH (c5_ifRun l hJ H.size x1 x2 e2) (cwV 2 hts qL_179 rfl rfl rfl (by decide +kernel) ⟨Nat.le_of_ble_eq_true rfl, Nat.le_of_ble_eq_true rfl⟩) rfl hl.1 rfl (Nat.le_of_ble_eq_true rfl) dL_law_1558 ⟨by omega, by omega⟩ (fun H locs (hH : lH D Y cI cZ cL ad bd o t.2.2 g v0' v1 v2' v3 v4 v5 v6 v7' v8' s H locs) => ?_)
  refine lv_istore (lv' := [(6, .int r), (5, .int (v0' 8)), (0, .ref b), (1, .ref (ad 150)), (2, .ref (bd 0)), (3, .ref o), (4, .int (nI i))]) hx hb dL_law_1561 hl (by decide) rfl (fun ls hl => ?_)
  refine lv_aload_n hx hb dL_law_1563 rfl (lv_at hl 4 rfl) ?_
  refine kT F hH hl.1 rfl (Nat.le_of_ble_eq_true rfl) dL_law_1564 ⟨by omega, by omega⟩ ?_
  refine lv_iload hx hb dL_law_1567 (lv_at hl 1 rfl) ?_
  refine lv_icmp_eq (tgt := 1574) hx hb dL_law_1569 (by decide) (fun c1 => ?_) (fun c1 => absurd rfl c1)
  refine lv_iload hx hb dL_law_1574 (lv_at hl 1 rfl) ?_
  refine lv_if_ne (tgt := 1591) hx hb dL_law_1576 (by decide) (fun c2 => ?_) (fun c2 => ?_)
  · refine lv_goto (tgt := 1637) hx hb dL_law_1591 (by decide) ?_
    exact kk t.2.2 g v0' v1 v2' v3 v4 v5 v6 v7' v8' H locs ls hH hR1 (lv_sub hl [2, 3, 4, 5, 6] rfl)
  · refine lv_aload_n hx hb dL_law_1579 rfl (lv_at hl 5 rfl) ?_
    refine lv_iconst (v := 0) hx hb dL_law_1580 (by decide) ?_
    refine va_lald hx hb hKo hH.2.2.1 0 0 rfl rfl (vp_in_nI (n := 0) (by omega) (by omega)) dL_law_1581 ?_
    refine lv_iload hx hb dL_law_1582 (lv_at hl 0 rfl) ?_
    refine lv_i2l hx hb dL_law_1584 rfl ?_
    refine W.lcmp hx hb dL_law_1585 ?_
    refine lv_if_eq (tgt := 1591) hx hb dL_law_1586 (by decide) (fun c3 => ?_) (fun c3 => absurd (lg_same (show g (Int32.toNatClampNeg 0) = r.toInt64 from (hg c2).trans (by rw [hv c2]))) c3)
    refine lv_goto (tgt := 1637) hx hb dL_law_1591 (by decide) ?_
    exact kk t.2.2 g v0' v1 v2' v3 v4 v5 v6 v7' v8' H locs ls hH hR1 (lv_sub hl [2, 3, 4, 5, 6] rfl)
end CasesA
