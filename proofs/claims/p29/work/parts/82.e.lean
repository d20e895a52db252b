set_option maxRecDepth 100000 in
set_option maxHeartbeats 4000000 in
theorem lX3_fill {p : Program} {l : Launch} {e : Env} {R : Room} {s : State} {m : MethodId} {args : Array Value} {below : List Frame} {meth : Method} {c : Code} {D : va_G} {tys : List (ClassId × FieldType)} {cI : ClassId} {E : Nat → va_E} {n k cells slots : Nat} {Q : State → Prop} {fs : List Value} (S : CallFix p m c cX3_init 2 s args gw RX3) (hK : va_K D vwCl tys s) (hAr : ArrOfT s cI .int) (hE0 : E 0 = .inr (3, fs)) (hf : fs[0]? = some (.ref (n + 1))) (hk : 2 ≤ k)
    (kk : ∀ (H : Heap) (locs : List Loc) (ls : Array Slot), bH D (eu E 1 (.inl (cI, 30, .inl (gfl 30)))) n k s H locs → lv_has ls 2 [(1, .int (nI 30)), (0, .ref n)] → W p l e R s m args below meth c H locs cells slots Q (F0 m 73 ls [])) :
    ∀ (d j : Nat) (H : Heap) (locs : List Loc) (ls : Array Slot), j + d = 30 → bH D (eu E 1 (.inl (cI, 30, .inl (gfl j)))) n k s H locs → lv_has ls 2 [(1, .int (nI j)), (0, .ref n)] → W p l e R s m args below meth c H locs cells slots Q (F0 m 54 ls []) := by
  have hx := S.1
  have hb := S.2.1
  have hown := S.2.2.2.1
  have hts := S.2.2.2.2
  intro d
  induction d with
  | zero =>
    intro j H locs ls hj hH hl
    obtain rfl : j = 30 := by omega
    refine lv_iload_n hx hb dX3_init_54 rfl (lv_at hl 0 rfl) ?_
    refine lv_bipush (v := 30) hx hb dX3_init_55 (by decide) ?_
    refine lv_icmp_ge (tgt := 73) hx hb dX3_init_57 (by decide) (fun _ => kk H locs ls hH hl) (fun c1 => absurd (by decide) c1)
  | succ d ih =>
    intro j H locs ls hj hH hl
    refine lv_iload_n hx hb dX3_init_54 rfl (lv_at hl 0 rfl) ?_
    refine lv_bipush (v := 30) hx hb dX3_init_55 (by decide) ?_
    refine lv_icmp_ge (tgt := 73) hx hb dX3_init_57 (by decide) (fun c1 => absurd ((n_le (a := 30) (by omega) (by omega)).mp c1) (by omega)) (fun _ => ?_)
    refine lv_aload_n hx hb dX3_init_60 rfl (lv_at hl 1 rfl) ?_
    refine b_get hx hb hts inlX3 hown hK hH 0 (by omega) (fs := fs) (by rw [eu_n (by omega)]; exact hE0) (ci := 3) rfl 0 (by omega) gfX3_9 rfl hf dX3_init_61 ?_
    refine lv_iload_n hx hb dX3_init_64 rfl (lv_at hl 0 rfl) ?_
    refine lv_iconst (v := 3) hx hb dX3_init_65 (by decide) ?_
    refine b_iast hx hb hAr hH 1 (by omega) eu_s (vp_in_nI (by omega) (by omega)) dX3_init_66 (fun H locs hH => ?_)
    rw [eu_eu, cl_n (by omega), gf_u] at hH
    refine lv_iinc (v := nI (j + 1)) (lv' := [(1, .int (nI (j + 1))), (0, .ref n)]) hx hb dX3_init_67 hl (k := 0) rfl (by exact nI_add j 1) (by decide) rfl (fun ls hl => ?_)
    refine lv_goto (tgt := 54) hx hb dX3_init_70 (by decide) ?_
    exact ih (j + 1) H locs ls (by omega) hH hl
