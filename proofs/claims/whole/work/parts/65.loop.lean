/-! the law's loop -/
theorem and31 (x : Int32) : ∃ k, k < 32 ∧ x &&& 31 = nI k := by
  have h : (x &&& 31).toBitVec.toNat < 32 := by
    rw [Int32.toBitVec_and, BitVec.toNat_and]
    have e : (31 : Int32).toBitVec.toNat = 31 := rfl
    rw [e]
    exact Nat.lt_succ_of_le Nat.and_le_right
  refine ⟨(x &&& 31).toBitVec.toNat, h, ?_⟩
  apply Int32.toInt_inj.mp
  rw [nI_toInt (by omega)]
  exact BitVec.toInt_eq_toNat_of_lt (by omega)
theorem of_L {L i : Nat} (hL : L ≤ 2048) (hi : i < 2 ^ 30) : (Int32.ofNat L - 4 < nI i) ↔ L < i + 4 := by
  have a : (Int32.ofNat L).toInt = L := nI_toInt (n := L) (by omega)
  have z : (4 : Int32).toInt = 4 := rfl
  have e := i_sub (a := Int32.ofNat L) (b := 4) (by rw [a, z]; omega) (by rw [a, z]; omega)
  rw [i_lt, e, a, z, nI_toInt (by omega)]
  omega
set_option maxRecDepth 100000 in
set_option maxHeartbeats 4000000 in
theorem law_loop {p : Program} {l : Launch} {e : Env} {s : State} {m : MethodId} {below : List Frame} {meth : Method} {c : Code} {D : va_G} {Y : cYt} {cI cZ cL : ClassId} {ad bd : Nat → Nat} {o : Nat} {b L : Nat} {xs : Nat → Int32} (F : lF D Y cI cZ cL ad bd o p l s m #[Value.ref b] c) (hX : va_X b L xs s s.heap) (hbl : b < s.heap.size) (hr : meth.sig.returnType = ret) (hlk : meth.locks = false) (hL : L ≤ 2048) :
    ∀ (n i cells slots : Nat), L - i ≤ n → i ≤ L + 4 → cells + 3 * (L - i) ≤ 601024 → slots + 18 * (L - i) ≤ 7293034 →
    ∀ (mu : Nat → Nat → Int32) (f : Nat → Int64) (v0 v1 v2 v3 v4 v5 v6 v7 v8 : Nat → Int32) (H : Heap) (locs : List Loc) (ls : Array Slot), lH D Y cI cZ cL ad bd o mu f v0 v1 v2 v3 v4 v5 v6 v7 v8 s H locs → Rel mu v0 v1 v3 v4 v5 v6 → lv_has ls 9 [(0, .ref b), (1, .ref (ad 150)), (2, .ref (bd 0)), (3, .ref o), (4, .int (nI i))] → W p l e room_1 s m #[Value.ref b] below meth c H locs cells slots (lw_Z below #[Value.ref b] s) (F0 m 23 ls []) := by
  have hx := F.1.1
  have hb := F.1.2.1
  have hbA : ¬ (fun q : Nat => s.heap.size ≤ q) b := Nat.not_le.mpr hbl
  intro n
  induction n with
  | zero =>
    intro i cells slots hn hiL hc1 hc2 mu f v0 v1 v2 v3 v4 v5 v6 v7 v8 H locs ls hH hR hl
    refine lv_iload hx hb dL_law_23 (lv_at hl 4 rfl) ?_
    refine lv_aload_n hx hb dL_law_25 rfl (lv_at hl 0 rfl) ?_
    refine va_slen hx hb hX hbl hbA hH.2.2.2 dL_law_26 ?_
    refine lv_iconst (v := 4) hx hb dL_law_27 (by decide) ?_
    refine lv_isub hx hb dL_law_28 ?_
    refine lv_icmp_gt (tgt := 1643) hx hb dL_law_29 (by decide) (fun c1 => ?_) (fun c1 => absurd ((of_L hL (by omega)).mpr (by omega)) c1)
    refine lv_iconst (v := 1) hx hb dL_law_1643 (by decide) ?_
    refine va_forget (fun q hq => hH.2.2.2.2.2 q hq) ?_
    refine W.widen (k := 601024) (n := 7293034) (by omega) (by omega) ?_
    exact lw_ret (d0 := s.drawn) (Drawn.sameBut.refl s.drawn lw_cs) hx hb hr hlk dL_law_1644
  | succ n ih =>
    intro i cells slots hn hiL hc1 hc2 mu f v0 v1 v2 v3 v4 v5 v6 v7 v8 H locs ls hH hR hl
    refine lv_iload hx hb dL_law_23 (lv_at hl 4 rfl) ?_
    refine lv_aload_n hx hb dL_law_25 rfl (lv_at hl 0 rfl) ?_
    refine va_slen hx hb hX hbl hbA hH.2.2.2 dL_law_26 ?_
    refine lv_iconst (v := 4) hx hb dL_law_27 (by decide) ?_
    refine lv_isub hx hb dL_law_28 ?_
    refine lv_icmp_gt (tgt := 1643) hx hb dL_law_29 (by decide) (fun c1 => ?_) (fun c1 => ?_)
    · refine lv_iconst (v := 1) hx hb dL_law_1643 (by decide) ?_
      refine va_forget (fun q hq => hH.2.2.2.2.2 q hq) ?_
      refine W.widen (k := 601024) (n := 7293034) (by omega) (by omega) ?_
      exact lw_ret (d0 := s.drawn) (Drawn.sameBut.refl s.drawn lw_cs) hx hb hr hlk dL_law_1644
    · have hi : i + 3 < L := by
        rw [of_L hL (by omega)] at c1
        omega
      have hc : cells + 3 ≤ 601024 ∧ slots + 18 ≤ 7293034 := ⟨by omega, by omega⟩
      have kk : lK D Y cI cZ cL ad bd o p l e s m below meth c b i (cells + 3) (slots + 18) (lw_Z below #[Value.ref b] s) := by
        intro mu f v0 v1 v2 v3 v4 v5 v6 v7 v8 H locs ls hH hR hl
        refine lv_iinc (v := nI (i + 4)) (lv' := [(4, .int (nI (i + 4))), (0, .ref b), (1, .ref (ad 150)), (2, .ref (bd 0)), (3, .ref o)]) hx hb dL_law_1637 hl (k := 4) rfl (by exact nI_add i 4) (by decide) rfl (fun ls hl => ?_)
        refine lv_goto (tgt := 23) hx hb dL_law_1640 (by decide) ?_
        exact ih (i + 4) (cells + 3) (slots + 18) (by omega) (by omega) (by omega) (by omega) mu f v0 v1 v2 v3 v4 v5 v6 v7 v8 H locs ls hH hR (lv_sub hl [1, 2, 3, 4, 0] rfl)
      refine lv_aload_n hx hb dL_law_32 rfl (lv_at hl 0 rfl) ?_
      refine lv_iload hx hb dL_law_33 (lv_at hl 4 rfl) ?_
      refine va_sld hx hb hX hbl hbA hH.2.2.2 (vp_in_nI (by omega) (by omega)) dL_law_35 ?_
      refine lv_bipush (v := 31) hx hb dL_law_36 (by decide) ?_
      refine lv_iand hx hb dL_law_38 ?_
      obtain ⟨k, hk, ek⟩ := and31 (xs (Int32.toNatClampNeg (nI i)))
      rw [ek]
      rcases (show k = 0 ∨ k = 1 ∨ k = 2 ∨ k = 3 ∨ k = 4 ∨ k = 5 ∨ k = 6 ∨ k = 7 ∨ k = 8 ∨ k = 9 ∨ k = 10 ∨ k = 11 ∨ k = 12 ∨ k = 13 ∨ k = 14 ∨ k = 15 ∨ k = 16 ∨ k = 17 ∨ k = 18 ∨ k = 19 ∨ k = 20 ∨ k = 21 ∨ k = 22 ∨ k = 23 ∨ k = 24 ∨ k = 25 ∨ 25 < k by omega) with rfl | rfl | rfl | rfl | rfl | rfl | rfl | rfl | rfl | rfl | rfl | rfl | rfl | rfl | rfl | rfl | rfl | rfl | rfl | rfl | rfl | rfl | rfl | rfl | rfl | rfl | hk2
      · refine lv_tableIn (tgt := 156) (off := 117) hx hb dL_law_39 (by decide) (by decide) rfl rfl ?_
        exact lc_grade F hX hbl hH hR hc hL hi hl kk
      · refine lv_tableIn (tgt := 224) (off := 185) hx hb dL_law_39 (by decide) (by decide) rfl rfl ?_
        exact lc_spring F hX hbl hH hR hc hL hi hl kk
      · refine lv_tableIn (tgt := 292) (off := 253) hx hb dL_law_39 (by decide) (by decide) rfl rfl ?_
        exact lc_car F hX hbl hH hR hc hL hi hl kk
      · refine lv_tableIn (tgt := 336) (off := 297) hx hb dL_law_39 (by decide) (by decide) rfl rfl ?_
        exact lc_load F hX hbl hH hR hc hL hi hl kk
      · refine lv_tableIn (tgt := 404) (off := 365) hx hb dL_law_39 (by decide) (by decide) rfl rfl ?_
        exact lc_release F hX hbl hH hR hc hL hi hl kk
      · refine lv_tableIn (tgt := 472) (off := 433) hx hb dL_law_39 (by decide) (by decide) rfl rfl ?_
        exact lc_brake F hX hbl hH hR hc hL hi hl kk
      · refine lv_tableIn (tgt := 540) (off := 501) hx hb dL_law_39 (by decide) (by decide) rfl rfl ?_
        exact lc_pull F hX hbl hH hR hc hL hi hl kk
      · refine lv_tableIn (tgt := 596) (off := 557) hx hb dL_law_39 (by decide) (by decide) rfl rfl ?_
        exact lc_set F hX hbl hH hR hc hL hi hl kk
      · refine lv_tableIn (tgt := 664) (off := 625) hx hb dL_law_39 (by decide) (by decide) rfl rfl ?_
        exact lc_run F hX hbl hH hR hc hL hi hl kk
      · refine lv_tableIn (tgt := 720) (off := 681) hx hb dL_law_39 (by decide) (by decide) rfl rfl ?_
        exact lc_append F hX hbl hH hR hc hL hi hl kk
      · refine lv_tableIn (tgt := 776) (off := 737) hx hb dL_law_39 (by decide) (by decide) rfl rfl ?_
        exact lc_clearBuffer F hX hbl hH hR hc hL hi hl kk
      · refine lv_tableIn (tgt := 789) (off := 750) hx hb dL_law_39 (by decide) (by decide) rfl rfl ?_
        exact lc_firstError F hX hbl hH hR hc hL hi hl kk
      · refine lv_tableIn (tgt := 802) (off := 763) hx hb dL_law_39 (by decide) (by decide) rfl rfl ?_
        exact lc_execute F hX hbl hH hR hc hL hi hl kk
      · refine lv_tableIn (tgt := 846) (off := 807) hx hb dL_law_39 (by decide) (by decide) rfl rfl ?_
        exact lc_undo F hX hbl hH hR hc hL hi hl kk
      · refine lv_tableIn (tgt := 890) (off := 851) hx hb dL_law_39 (by decide) (by decide) rfl rfl ?_
        exact lc_keep F hX hbl hH hR hc hL hi hl kk
      · refine lv_tableIn (tgt := 946) (off := 907) hx hb dL_law_39 (by decide) (by decide) rfl rfl ?_
        exact lc_goBack F hX hbl hH hR hc hL hi hl kk
      · refine lv_tableIn (tgt := 1002) (off := 963) hx hb dL_law_39 (by decide) (by decide) rfl rfl ?_
        exact lc_section F hX hbl hH hR hc hL hi hl kk
      · refine lv_tableIn (tgt := 1070) (off := 1031) hx hb dL_law_39 (by decide) (by decide) rfl rfl ?_
        exact lc_carOf F hX hbl hH hR hc hL hi hl kk
      · refine lv_tableIn (tgt := 1138) (off := 1099) hx hb dL_law_39 (by decide) (by decide) rfl rfl ?_
        exact lc_cars F hX hbl hH hR hc hL hi hl kk
      · refine lv_tableIn (tgt := 1194) (off := 1155) hx hb dL_law_39 (by decide) (by decide) rfl rfl ?_
        exact lc_rolling F hX hbl hH hR hc hL hi hl kk
      · refine lv_tableIn (tgt := 1250) (off := 1211) hx hb dL_law_39 (by decide) (by decide) rfl rfl ?_
        exact lc_count F hX hbl hH hR hc hL hi hl kk
      · refine lv_tableIn (tgt := 1306) (off := 1267) hx hb dL_law_39 (by decide) (by decide) rfl rfl ?_
        exact lc_refusal F hX hbl hH hR hc hL hi hl kk
      · refine lv_tableIn (tgt := 1390) (off := 1351) hx hb dL_law_39 (by decide) (by decide) rfl rfl ?_
        exact lc_ifAlone F hX hbl hH hR hc hL hi hl kk
      · refine lv_tableIn (tgt := 1470) (off := 1431) hx hb dL_law_39 (by decide) (by decide) rfl rfl ?_
        exact lc_leastBrake F hX hbl hH hR hc hL hi hl kk
      · refine lv_tableIn (tgt := 1526) (off := 1487) hx hb dL_law_39 (by decide) (by decide) rfl rfl ?_
        exact lc_ifRun F hX hbl hH hR hc hL hi hl kk
      · refine lv_tableIn (tgt := 1594) (off := 1555) hx hb dL_law_39 (by decide) (by decide) rfl rfl ?_
        exact lc_meanSpeed F hX hbl hH hR hc hL hi hl kk
      · refine lv_tableOut (tgt := 1637) hx hb dL_law_39 (Or.inr (by rw [nI_toInt (by omega)]; omega)) rfl ?_
        refine W.widen (k := cells + 3) (n := slots + 18) (by omega) (by omega) ?_
        exact kk mu f v0 v1 v2 v3 v4 v5 v6 v7 v8 H locs ls hH hR hl
