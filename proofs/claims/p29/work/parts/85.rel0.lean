/-! the start: both sides hold the same -/
theorem s0_z {i : Nat} (h : 30 ≤ i) (h1 : i ≠ 168) (h2 : i ≠ 169) (h3 : i ≠ 170) : s0 i = 0 := by
  unfold s0
  rw [if_neg (by omega), if_neg h1, if_neg h2, if_neg h3]
theorem inv_s0 : Inv s0 := by
  refine ⟨⟨0, by omega, rfl⟩, fun c hc => ?_, ⟨⟨2, by omega, rfl⟩, ⟨6, by omega, rfl⟩, ⟨1, by omega, rfl⟩⟩, fun i hi => ⟨3, by omega, if_pos hi⟩, fun i hi => ⟨0, by omega, s0_z (by omega) (by omega) (by omega) (by omega)⟩, by decide, fun i hi => s0_z (by omega) (by omega) (by omega) (by omega)⟩
  have z : ∀ k, k < 9 → s0 (90 + 9 * c + k) = nI 0 := fun k hk => s0_z (by omega) (by omega) (by omega) (by omega)
  exact ⟨⟨0, by omega, z 0 (by omega)⟩, ⟨0, by omega, z 1 (by omega)⟩, ⟨0, by omega, z 2 (by omega)⟩, ⟨0, by omega, z 3 (by omega)⟩, ⟨0, by omega, z 4 (by omega)⟩, ⟨0, by omega, z 5 (by omega)⟩, fun _ => ⟨0, by omega, z 4 (by omega)⟩⟩
/-! classes of arrays that the tables know -/
theorem ak_p {args : Array Value} {s : State} {ty : FieldType} (h : (Cond.arrayClass ty).before args s = true) : ∃ cA : ClassId, ArrOfT s cA ty ∧ s.vm.findClass ("[" ++ ty.toString) = some cA := by
  obtain ⟨cA, kA, comp, h1, h2, h3⟩ := Cond.arrayClass_spec h
  exact ⟨cA, fun n z => ⟨fun k h => (by cases h), kA, h2, comp, h3⟩, h1⟩
theorem ak_q {args : Array Value} {s : State} {C : String} (h : (Cond.arrayOver (.object C)).before args s = true) : ∃ cA : ClassId, ArrOfT s cA (.object C) ∧ va_RA s cA (.object C) := by
  obtain ⟨comp, cA, kA, h1, h2, h3, h4, h5⟩ := Cond.arrayOver_spec h
  exact ⟨cA, fun n z => ⟨fun k h => (by cases h), kA, h3, comp, h4⟩, kA, comp, h3, h4, h1, h5⟩
/-! words of the tables that are no good words -/
theorem tw_n1 : Cond.methodLinkNest RX3 33 yX0_init RX4 ∈ lw_tbl := List.mem_of_getElem? (i := 45) (by decide +kernel)
theorem tw_n2 : Cond.methodLinkNest RX4 36 yX2_init RX4 ∈ lw_tbl := List.mem_of_getElem? (i := 158) (by decide +kernel)
theorem tw_d1 : Cond.declares ⟨"java/lang/RuntimeException", "<init>", "(Ljava/lang/String;)V"⟩ ∈ lw_tbl := List.mem_of_getElem? (i := 241) (by decide +kernel)
theorem tw_d2 : Cond.declares ⟨"java/lang/Exception", "<init>", "(Ljava/lang/String;)V"⟩ ∈ lw_tbl := List.mem_of_getElem? (i := 243) (by decide +kernel)
theorem tw_d3 : Cond.declares ⟨"java/lang/Throwable", "<init>", "(Ljava/lang/String;)V"⟩ ∈ lw_tbl := List.mem_of_getElem? (i := 245) (by decide +kernel)
theorem tw_l1 : Cond.laysStatic "java/lang/Throwable" "UNASSIGNED_STACK" "[Ljava/lang/StackTraceElement;" ∈ lw_tbl := List.mem_of_getElem? (i := 264) (by decide +kernel)
theorem tw_l2 : Cond.laysStatic "java/lang/Throwable" "SUPPRESSED_SENTINEL" "Ljava/util/List;" ∈ lw_tbl := List.mem_of_getElem? (i := 266) (by decide +kernel)
theorem tw_i : Cond.initialized "java/lang/Throwable" ∈ lw_tbl := List.mem_of_getElem? (i := 19) (by decide +kernel)
theorem tw_s1 : Cond.stringRef RX4 202 "there is no such number" ∈ lw_tbl := List.mem_of_getElem? (i := 536) (by decide +kernel)
theorem tw_s2 : Cond.stringRef RX4 209 "the argument is not allowed" ∈ lw_tbl := List.mem_of_getElem? (i := 278) (by decide +kernel)
theorem tw_s3 : Cond.stringRef RX4 214 "this is not possible now" ∈ lw_tbl := List.mem_of_getElem? (i := 459) (by decide +kernel)
theorem vk_Rex {args : Array Value} {s : State} {own tx : String} {k : Nat} (h1 : (Cond.stringRef own k tx).before args s = true) (h2 : (Cond.exactly (.string own k) "java/lang/String").before args s = true) : ∃ a, vk_R own k tx a s := by
  obtain ⟨a, c, cA, kA, q1, -⟩ := Cond.exactly_spec (args := args) (first := s) (o := none) (s := s) (idx := []) (t := .string own k) (cls := "java/lang/String") h2
  exact ⟨a, vk_R.of h1 q1⟩
set_option maxRecDepth 100000 in
/-- what the law's throws need, at its entry -/
theorem zx_0 {s : State} {b : Nat} (hts : ∀ w ∈ lw_tbl, w.before #[Value.ref b] s = true) (hgv : (Jvm.Cond.and given_1 narrow_1).before #[Value.ref b] s = true) : zx (fun q => s.heap.size ≤ q) s ∧ zn s ∧ nx s := by
  have hs := flat_of_before _ hgv
  have hA : ∀ a : Nat, a < s.heap.size → ¬ s.heap.size ≤ a := fun a h => Nat.not_le.mpr h
  have u1 : (Cond.isRef (.static "java/lang/Throwable" "UNASSIGNED_STACK" "[Ljava/lang/StackTraceElement;")).before #[Value.ref b] s = true := hs _ (by decide +kernel)
  have u2 : (Cond.isRef (.static "java/lang/Throwable" "SUPPRESSED_SENTINEL" "Ljava/util/List;")).before #[Value.ref b] s = true := hs _ (by decide +kernel)
  have e1 : (Cond.exactly (.string "OreRailway" 202) "java/lang/String").before #[Value.ref b] s = true := hs _ (by decide +kernel)
  have e2 : (Cond.exactly (.string "OreRailway" 209) "java/lang/String").before #[Value.ref b] s = true := hs _ (by decide +kernel)
  have e3 : (Cond.exactly (.string "OreRailway" 214) "java/lang/String").before #[Value.ref b] s = true := hs _ (by decide +kernel)
  have c1 : (Cond.not (.castable "java/lang/IllegalArgumentException" "java/lang/IndexOutOfBoundsException")).before #[Value.ref b] s = true := hs _ (by decide +kernel)
  have c2 : (Cond.not (.castable "java/lang/IllegalStateException" "java/lang/IndexOutOfBoundsException")).before #[Value.ref b] s = true := hs _ (by decide +kernel)
  have c3 : (Cond.not (.castable "java/lang/IllegalStateException" "java/lang/IllegalArgumentException")).before #[Value.ref b] s = true := hs _ (by decide +kernel)
  refine ⟨⟨⟨vx_Zqof (hts _ tw_l1) (hts _ tw_i) u1 hA, vx_Zqof (hts _ tw_l2) (hts _ tw_i) u2 hA⟩, ⟨vk_Rex (hts _ tw_s1) e1, vk_Rex (hts _ tw_s2) e2, vk_Rex (hts _ tw_s3) e3⟩, va_Nw.of rfl (hts _ gt_IndexOutOfBoundsException), va_Nw.of rfl (hts _ gt_IllegalArgumentException), va_Nw.of rfl (hts _ gt_IllegalStateException), va_Nw.of rfl (hts _ tw_d1), va_Nw.of rfl (hts _ tw_d2), va_Nw.of rfl (hts _ tw_d3)⟩, ⟨va_Nc.of c1, va_Nc.of c2, va_Nc.of c3⟩, va_Nw.of rfl (hts _ tw_n1), va_Nw.of rfl (hts _ tw_n2), va_AO.of (hts _ go_RX0), va_AO.of (hts _ go_RX3)⟩
