section CasesB
variable {p : Program} {l : Launch} {e : Env} {s : State} {m : MethodId} {below : List Frame} {meth : Method} {c : Code} {D : va_G} {Y : cYt} {cI cZ cL : ClassId} {ad bd : Nat → Nat} {o : Nat} {mu : Nat → Nat → Int32} {f : Nat → Int64} {v0 v1 v2 v3 v4 v5 v6 v7 v8 : Nat → Int32} {H : Heap} {locs : List Loc} {cells slots : Nat} {Q : State → Prop} {ls : Array Slot} {b L i : Nat} {xs : Nat → Int32}
set_option maxRecDepth 100000 in
set_option maxHeartbeats 4000000 in
theorem lc_refusal (F : lF D Y cI cZ cL ad bd o p l s m #[Value.ref b] c) (hX : va_X b L xs s s.heap) (hbl : b < s.heap.size) (hH : lH D Y cI cZ cL ad bd o mu f v0 v1 v2 v3 v4 v5 v6 v7 v8 s H locs) (hR : Rel mu v0 v1 v3 v4 v5 v6) (hc : cells + 3 ≤ 601024 ∧ slots + 18 ≤ 7293034) (hL : L ≤ 2048) (hi : i + 3 < L) (hl : lv_has ls 9 [(0, .ref b), (1, .ref (ad 150)), (2, .ref (bd 0)), (3, .ref o), (4, .int (nI i))]) (kk : lK D Y cI cZ cL ad bd o p l e s m below meth c b i (cells + 3) (slots + 18) Q) : W p l e room_1 s m #[Value.ref b] below meth c H locs cells slots Q (F0 m 1306 ls []) := by
  by_cases h0 : xs (Int32.toNatClampNeg (nI i + 2)) = 0
  · exact lc_refusal_a F hX hbl hH hR hc hL hi hl kk h0
  · exact lc_refusal_b F hX hbl hH hR hc hL hi hl kk h0
set_option maxRecDepth 100000 in
set_option maxHeartbeats 4000000 in
theorem lc_clearBuffer (F : lF D Y cI cZ cL ad bd o p l s m #[Value.ref b] c) (hX : va_X b L xs s s.heap) (hbl : b < s.heap.size) (hH : lH D Y cI cZ cL ad bd o mu f v0 v1 v2 v3 v4 v5 v6 v7 v8 s H locs) (hR : Rel mu v0 v1 v3 v4 v5 v6) (hc : cells + 3 ≤ 601024 ∧ slots + 18 ≤ 7293034) (hL : L ≤ 2048) (hi : i + 3 < L) (hl : lv_has ls 9 [(0, .ref b), (1, .ref (ad 150)), (2, .ref (bd 0)), (3, .ref o), (4, .int (nI i))]) (kk : lK D Y cI cZ cL ad bd o p l e s m below meth c b i (cells + 3) (slots + 18) Q) : W p l e room_1 s m #[Value.ref b] below meth c H locs cells slots Q (F0 m 776 ls []) := by
  obtain ⟨SF, hl0, ⟨hI, hJ, hab, hao, hbo⟩, ⟨ha0, hb0, ho0⟩, ⟨hK, hKm, hKo⟩, hz, hn0⟩ := id F
  have hx := SF.1
  have hb := SF.2.1
  have hts := SF.2.2.2.2
  obtain ⟨t, r, v0', e1, e2, hR1, hk⟩ := q_clearBuffer hR
  refine W.widen (k := cells + 3) (n := slots + 18) (by omega) (by omega) ?_
  refine lv_aload_n hx hb dL_law_776 rfl (lv_at hl 1 rfl) ?_
  refine kC F hH (c4_clearBuffer l hI H.size e1) (cwV 0 hts qL_131 rfl rfl rfl (by decide +kernel) ⟨Nat.le_of_ble_eq_true rfl, Nat.le_of_ble_eq_true rfl⟩) rfl hl.1 rfl (Nat.le_of_ble_eq_true rfl) dL_law_777 ⟨by omega, by omega⟩ (fun H locs hH => ?_)
  refine lv_aload_n hx hb dL_law_780 rfl (lv_at hl 2 rfl) ?_
  refine kM F hH (c5_clearBuffer l hJ H.size e2) (cwV 0 hts qL_134 rfl rfl rfl (by decide +kernel) ⟨Nat.le_of_ble_eq_true rfl, Nat.le_of_ble_eq_true rfl⟩) rfl hl.1 rfl (Nat.le_of_ble_eq_true rfl) dL_law_781 ⟨by omega, by omega⟩ (fun H locs (hH : lH D Y cI cZ cL ad bd o t.2 f v0' v1 v2 v3 v4 v5 v6 v7 v8 s H locs) => ?_)
  refine lv_icmp_eq (tgt := 1637) hx hb dL_law_784 (by decide) (fun c1 => ?_) (fun c1 => absurd hk c1)
  exact kk t.2 f v0' v1 v2 v3 v4 v5 v6 v7 v8 H locs ls hH hR1 hl
set_option maxRecDepth 100000 in
set_option maxHeartbeats 4000000 in
theorem lc_firstError (F : lF D Y cI cZ cL ad bd o p l s m #[Value.ref b] c) (hX : va_X b L xs s s.heap) (hbl : b < s.heap.size) (hH : lH D Y cI cZ cL ad bd o mu f v0 v1 v2 v3 v4 v5 v6 v7 v8 s H locs) (hR : Rel mu v0 v1 v3 v4 v5 v6) (hc : cells + 3 ≤ 601024 ∧ slots + 18 ≤ 7293034) (hL : L ≤ 2048) (hi : i + 3 < L) (hl : lv_has ls 9 [(0, .ref b), (1, .ref (ad 150)), (2, .ref (bd 0)), (3, .ref o), (4, .int (nI i))]) (kk : lK D Y cI cZ cL ad bd o p l e s m below meth c b i (cells + 3) (slots + 18) Q) : W p l e room_1 s m #[Value.ref b] below meth c H locs cells slots Q (F0 m 789 ls []) := by
  obtain ⟨SF, hl0, ⟨hI, hJ, hab, hao, hbo⟩, ⟨ha0, hb0, ho0⟩, ⟨hK, hKm, hKo⟩, hz, hn0⟩ := id F
  have hx := SF.1
  have hb := SF.2.1
  have hts := SF.2.2.2.2
  obtain ⟨r, v0', e1, e2, hR1⟩ := q_firstError hR
  refine W.widen (k := cells + 3) (n := slots + 18) (by omega) (by omega) ?_
  refine lv_aload_n hx hb dL_law_789 rfl (lv_at hl 1 rfl) ?_
  refine kCr (r := .int r) (fun a st oc t h => h) F hH (c4_firstError l e1) (cwV 0 hts qL_135 rfl rfl rfl (by decide +kernel) ⟨Nat.le_of_ble_eq_true rfl, Nat.le_of_ble_eq_true rfl⟩) hl.1 rfl (Nat.le_of_ble_eq_true rfl) dL_law_790 ⟨by omega, by omega⟩ ?_
  refine lv_aload_n hx hb dL_law_793 rfl (lv_at hl 2 rfl) ?_
  refine kM F hH (c5_firstError l hJ H.size e2) (cwV 0 hts qL_138 rfl rfl rfl (by decide +kernel) ⟨Nat.le_of_ble_eq_true rfl, Nat.le_of_ble_eq_true rfl⟩) rfl hl.1 rfl (Nat.le_of_ble_eq_true rfl) dL_law_794 ⟨by omega, by omega⟩ (fun H locs (hH : lH D Y cI cZ cL ad bd o mu f v0' v1 v2 v3 v4 v5 v6 v7 v8 s H locs) => ?_)
  refine lv_icmp_eq (tgt := 1637) hx hb dL_law_797 (by decide) (fun c1 => ?_) (fun c1 => absurd rfl c1)
  exact kk mu f v0' v1 v2 v3 v4 v5 v6 v7 v8 H locs ls hH hR1 hl
set_option maxRecDepth 100000 in
set_option maxHeartbeats 4000000 in
theorem lc_meanSpeed (F : lF D Y cI cZ cL ad bd o p l s m #[Value.ref b] c) (hX : va_X b L xs s s.heap) (hbl : b < s.heap.size) (hH : lH D Y cI cZ cL ad bd o mu f v0 v1 v2 v3 v4 v5 v6 v7 v8 s H locs) (hR : Rel mu v0 v1 v3 v4 v5 v6) (hc : cells + 3 ≤ 601024 ∧ slots + 18 ≤ 7293034) (hL : L ≤ 2048) (hi : i + 3 < L) (hl : lv_has ls 9 [(0, .ref b), (1, .ref (ad 150)), (2, .ref (bd 0)), (3, .ref o), (4, .int (nI i))]) (kk : lK D Y cI cZ cL ad bd o p l e s m below meth c b i (cells + 3) (slots + 18) Q) : W p l e room_1 s m #[Value.ref b] below meth c H locs cells slots Q (F0 m 1594 ls []) := by
  obtain ⟨SF, hl0, ⟨hI, hJ, hab, hao, hbo⟩, ⟨ha0, hb0, ho0⟩, ⟨hK, hKm, hKo⟩, hz, hn0⟩ := id F
  have hx := SF.1
  have hb := SF.2.1
  have hts := SF.2.2.2.2
  obtain ⟨v, e1, e2, hv⟩ := q_mean2 hR
  refine W.widen (k := cells + 3) (n := slots + 18) (by omega) (by omega) ?_
  refine lv_aload_n hx hb dL_law_1594 rfl (lv_at hl 1 rfl) ?_
  refine kCr (r := .float v) (fun a st oc t h => h) F hH (c4_meanSpeed l e1) (cwV 0 hts qL_180 rfl rfl rfl (by decide +kernel) ⟨Nat.le_of_ble_eq_true rfl, Nat.le_of_ble_eq_true rfl⟩) hl.1 rfl (Nat.le_of_ble_eq_true rfl) dL_law_1595 ⟨by omega, by omega⟩ ?_
  refine lv_f2d hx hb dL_law_1598 hv ?_
  refine lv_dstore (lv' := [(5, .double (FP.f2d v)), (0, .ref b), (1, .ref (ad 150)), (2, .ref (bd 0)), (3, .ref o), (4, .int (nI i))]) hx hb dL_law_1599 hl (by decide) rfl (fun ls hl => ?_)
  refine lv_aload_n hx hb dL_law_1601 rfl (lv_at hl 3 rfl) ?_
  refine kMf F hH (c5_meanSpeed l hJ H.size e2) (cwV 0 hts qL_184 rfl rfl rfl (by decide +kernel) ⟨Nat.le_of_ble_eq_true rfl, Nat.le_of_ble_eq_true rfl⟩) rfl hl.1 rfl (Nat.le_of_ble_eq_true rfl) dL_law_1602 ⟨by omega, by omega⟩ (fun H locs (hH : lH D Y cI cZ cL ad bd o mu f (upd v0 8 0) v1 v2 v3 v4 v5 v6 v7 v8 s H locs) => ?_)
  refine lv_f2d hx hb dL_law_1605 hv ?_
  refine lv_dstore (lv' := [(7, .double (FP.f2d v)), (5, .double (FP.f2d v)), (0, .ref b), (1, .ref (ad 150)), (2, .ref (bd 0)), (3, .ref o), (4, .int (nI i))]) hx hb dL_law_1606 hl (by decide) rfl (fun ls hl => ?_)
  refine lv_dload hx hb dL_law_1608 (lv_at hl 1 rfl) ?_
  refine lv_dload hx hb dL_law_1610 (lv_at hl 0 rfl) ?_
  refine lv_dcmp hx hb dL_law_1612 ?_
  refine lv_if_eq (tgt := 1634) hx hb dL_law_1613 (by decide) (fun c1 => ?_) (fun c1 => ?_)
  · refine lv_goto (tgt := 1637) hx hb dL_law_1634 (by decide) ?_
    exact kk mu f (upd v0 8 0) v1 v2 v3 v4 v5 v6 v7 v8 H locs ls hH (rel_8 hR) (lv_sub hl [2, 3, 4, 5, 6] rfl)
  · refine lv_dload hx hb dL_law_1616 (lv_at hl 1 rfl) ?_
    refine lv_dload hx hb dL_law_1618 (lv_at hl 1 rfl) ?_
    refine lv_dcmp hx hb dL_law_1620 ?_
    refine lv_if_eq (tgt := 1632) hx hb dL_law_1621 (by decide) (fun c2 => absurd c2 c1) (fun c2 => ?_)
    refine lv_dload hx hb dL_law_1624 (lv_at hl 0 rfl) ?_
    refine lv_dload hx hb dL_law_1626 (lv_at hl 0 rfl) ?_
    refine lv_dcmp hx hb dL_law_1628 ?_
    refine lv_if_ne (tgt := 1634) hx hb dL_law_1629 (by decide) (fun c3 => ?_) (fun c3 => absurd c3 c1)
    refine lv_goto (tgt := 1637) hx hb dL_law_1634 (by decide) ?_
    exact kk mu f (upd v0 8 0) v1 v2 v3 v4 v5 v6 v7 v8 H locs ls hH (rel_8 hR) (lv_sub hl [2, 3, 4, 5, 6] rfl)
end CasesB
