/-! p29: cars, sections and the ore hang together -/
def stB (w : Vc) (j c : Nat) : Bool := decide ((w (90 + 9 * c + 0)).toInt < (j : Int))
def oreC (w : Vc) (c : Nat) : Int32 := w (90 + 9 * c + 1)
def delC (w : Vc) (c : Nat) : Int32 := w (90 + 9 * c + 6)
section Hangs
variable {mu : Nat → Nat → Int32} {S : Stt} {N : Nat}
theorem ha_81 (h : AS mu S) (hN : N ≤ 8) (hw : S.1 162 = nI N) : ∀ d j fuel, 5 - j = d → j ≤ 5 → d < fuel →
    f6_hangs_81 fuel (nI N) (mkN (stB S.1 j) N) 0 0 0 1 (nI j) mu = f6_hangs_134 (nI N) (mkN (stB S.1 5) N) 0 0 0 1 mu := by
  intro d
  induction d with
  | zero =>
    intro j fuel hd hj hf
    obtain ⟨n, rfl⟩ : ∃ n, fuel = n + 1 := ⟨fuel - 1, by omega⟩
    obtain rfl : j = 5 := by omega
    simp only [f6_hangs_81, if_pos (show (5 : Int32) ≤ nI 5 by decide)]
  | succ d ih =>
    intro j fuel hd hj hf
    obtain ⟨n, rfl⟩ : ∃ n, fuel = n + 1 := ⟨fuel - 1, by omega⟩
    rw [← ih (j + 1) n (by omega) (by omega) (by omega)]
    have c1 := ca_s (j := j) h hN hw (by omega)
    have tj : (nI j).toInt = (j : Int) := nI_toInt (by omega)
    have e1 : mkN (isSt S.1 (nI j)) N &&& mkN (stB S.1 j) N = 0 := mk_dis hN (Nat.le_refl _) (fun c hc q => by
      have q1 := st_i.mp q.1
      have q2 : (S.1 (90 + 9 * c + 0)).toInt < (j : Int) := of_decide_eq_true q.2
      rw [q1, tj] at q2
      omega)
    have e2 : mkN (stB S.1 j) N ||| mkN (isSt S.1 (nI j)) N = mkN (stB S.1 (j + 1)) N := by
      rw [mk_or]
      refine mk_congr (fun c hc => ?_)
      unfold stB isSt
      have : (S.1 (90 + 9 * c + 0)).toInt < ((j + 1 : Nat) : Int) ↔ (S.1 (90 + 9 * c + 0)).toInt < (j : Int) ∨ S.1 (90 + 9 * c + 0) = nI j := by
        rw [i_eq, tj]; omega
      refine Bool.eq_iff_iff.mpr ?_
      rw [Bool.or_eq_true, decide_eq_true_iff, decide_eq_true_iff, decide_eq_true_iff]
      exact this.symm
    simp only [f6_hangs_81]
    rw [if_neg (by rw [show (5 : Int32) = nI 5 from rfl, n_le (by omega) (by omega)]; omega), if_neg n10, c1, ob, if_neg (mk_nn hN), ob, if_pos e1]
    unfold f6_hangs_117
    rw [c1, ob, e2, ad_1]
/-- a car -/
theorem ha_c {B : Int} {c n : Nat} {x3 x4 x5 : Int32} (h : AS mu S) (hJ : JN B N S.1) (hc : c < N) :
    f6_hangs_158 (n + 1) (nI N) x3 x4 x5 1 (nI c) mu = f6_hangs_158 n (nI N) (x3 + oreC S.1 c) (x4 + delC S.1 c) (x5 + (if isSt S.1 4 c = true then 1 else 0)) 1 (nI (c + 1)) mu := by
  obtain ⟨hI, hN, hw, hC, hF, hs, hd, hn, ht, hr⟩ := hJ
  obtain ⟨q0, q1, q2, q3, q4, q5, q6⟩ := inv_q hI (c := c) (by omega)
  have hP := hC c hc
  unfold carW at hP
  unfold oreC delC
  have st4 : isSt S.1 4 c = true ↔ S.1 (90 + 9 * c + 0) = 4 := st_i
  have C0 : f6_carOf_0 mu (nI c) 0 = some (S.1 (90 + 9 * c + 0)) := cr_s (j := 0) h hN hw hc (by omega)
  have C1 : f6_carOf_0 mu (nI c) 1 = some (S.1 (90 + 9 * c + 1)) := cr_s (j := 1) h hN hw hc (by omega)
  have C2 : f6_carOf_0 mu (nI c) 2 = some (S.1 (90 + 9 * c + 2)) := cr_s (j := 2) h hN hw hc (by omega)
  have C3 : f6_carOf_0 mu (nI c) 3 = some (S.1 (90 + 9 * c + 3)) := cr_s (j := 3) h hN hw hc (by omega)
  have C4 : f6_carOf_0 mu (nI c) 4 = some (S.1 (90 + 9 * c + 4)) := cr_s (j := 4) h hN hw hc (by omega)
  have C5 : f6_carOf_0 mu (nI c) 5 = some (S.1 (90 + 9 * c + 5)) := cr_s (j := 5) h hN hw hc (by omega)
  have C6 : f6_carOf_0 mu (nI c) 6 = some (fF (S.1 (90 + 9 * c + 2)) (S.1 (90 + 9 * c + 5))) := cr_s (j := 6) h hN hw hc (by omega)
  have C7 : f6_carOf_0 mu (nI c) 7 = some (S.1 (90 + 9 * c + 6)) := cr_s (j := 7) h hN hw hc (by omega)
  have C8 : f6_carOf_0 mu (nI c) 8 = some (S.1 (90 + 9 * c + 7)) := cr_s (j := 8) h hN hw hc (by omega)
  have C9 : f6_carOf_0 mu (nI c) 9 = some (S.1 (90 + 9 * c + 8)) := cr_s (j := 9) h hN hw hc (by omega)
  have R1 := re_1 (c := c) h hN hw hc
  have R0 := re_0 (c := c) h hN hw hc
  have CA : ∃ M, f6_cars_0 mu (S.1 (90 + 9 * c + 0)) = some M ∧ (M >>> (nI c &&& 31)) &&& 1 = 1 := by
    obtain ⟨s, hs4, es⟩ := q0
    refine ⟨_, by rw [es]; exact ca_s (j := s) h hN hw hs4, (mk_in hN hc (st_i.mpr es)).2⟩
  have S2 : S.1 (90 + 9 * c + 0) = 1 → ∃ M, f6_section_0 mu (S.1 (90 + 9 * c + 4) / 10) 2 = some M ∧ (M >>> (nI c &&& 31)) &&& 1 = 1 := fun e => by
    obtain ⟨p, hp, ep⟩ := q6 (Or.inl e)
    have ed : S.1 (90 + 9 * c + 4) / 10 = nI (p / 10) := by rw [ep]; exact dv10 (by omega)
    refine ⟨mkN (inSec S.1 1 (nI (p / 10))) N, by rw [ed]; exact se_s (p := p / 10) (j := 2) h hN hw (by omega) (by omega), (mk_in hN hc (decide_eq_true ⟨e, ed⟩)).2⟩
  have S3 : S.1 (90 + 9 * c + 0) = 3 → rmI (S.1 (90 + 9 * c + 4)) 10 = 0 ∧ ¬ S.1 (90 + 9 * c + 4) ≤ 0 ∧ (∃ M, f6_section_0 mu (S.1 (90 + 9 * c + 4) / 10) 3 = some M ∧ (M >>> (nI c &&& 31)) &&& 1 = 1) ∧ ∃ M, f6_section_0 mu (S.1 (90 + 9 * c + 4) / 10) 4 = some M ∧ ¬ M ≤ 0 := fun e => by
    obtain ⟨m, m1, m2, m3, m4⟩ := hP.2.2.2.1 e
    have ed : S.1 (90 + 9 * c + 4) / 10 = nI m := by rw [m3, show nI (10 * m) / 10 = nI (10 * m / 10) from dv10 (by omega)]; congr 1; omega
    refine ⟨?_, ?_, ⟨mkN (inSec S.1 3 (nI m)) N, by rw [ed]; exact se_s (p := m) (j := 3) h hN hw (by omega) (by omega), (mk_in hN hc (decide_eq_true ⟨e, ed⟩)).2⟩, ⟨S.1 (60 + m), by rw [ed]; exact se_s (p := m) (j := 4) h hN hw (by omega) (by omega), ?_⟩⟩
    · rw [m3, show rmI (nI (10 * m)) 10 = nI (10 * m % 10) from rm_n (b := 10) (by omega) (by omega) (by omega), show 10 * m % 10 = 0 by omega]; rfl
    · rw [m3, show (0 : Int32) = nI 0 from rfl, n_le (by omega) (by omega)]; omega
    · rw [i_le, show (0 : Int32).toInt = 0 from rfl]; omega
  obtain ⟨M0, ca1, ca2⟩ := CA
  generalize S.1 (90 + 9 * c + 0) = a0 at *
  generalize S.1 (90 + 9 * c + 1) = a1 at *
  generalize S.1 (90 + 9 * c + 2) = a2 at *
  generalize S.1 (90 + 9 * c + 3) = a3 at *
  generalize S.1 (90 + 9 * c + 4) = a4 at *
  generalize S.1 (90 + 9 * c + 5) = a5 at *
  generalize S.1 (90 + 9 * c + 6) = a6 at *
  generalize S.1 (90 + 9 * c + 7) = a7 at *
  generalize S.1 (90 + 9 * c + 8) = a8 at *
  obtain ⟨p1, p2, p3, p4, p5, p6, p7, p8⟩ := hP
  have z0 : (0 : Int32).toInt = 0 := rfl
  have k1 := sml_i q1 (by omega)
  have k2 := sml_i q2 (by omega)
  have k3 := sml_i q3 (by omega)
  have k4 := sml_i q4 (by omega)
  have k5 := sml_i q5 (by omega)
  obtain ⟨K, hK⟩ : ∃ K, K = f6_hangs_158 n := ⟨_, rfl⟩
  rw [← hK]
  -- the end of the car's turn
  have t634 : f6_hangs_634 K (nI N) x3 x4 x5 (nI c) a0 1 mu = K (nI N) (x3 + a1) (x4 + a6) (x5 + (if isSt S.1 4 c = true then 1 else 0)) 1 (nI (c + 1)) mu := by
    unfold f6_hangs_634 f6_hangs_672
    rw [C1, ob, C7, ob, ad_1]
    by_cases e : a0 = 4
    · rw [if_pos e, if_pos (st4.mpr e)]
    · rw [if_neg e, if_neg (fun q => e (st4.mp q))]
  have t609 : ∀ y0 : Int32, (y0 = if a0 = 2 ∨ a0 = 3 then 1 else 0) → f6_hangs_609 K (nI N) x3 x4 x5 (nI c) a0 y0 mu = f6_hangs_634 K (nI N) x3 x4 x5 (nI c) a0 1 mu := fun y0 hy => by
    unfold f6_hangs_609 f6_hangs_621 f6_hangs_626
    by_cases e2 : a0 = 2
    · rw [if_pos (Or.inl e2)] at hy
      rw [if_pos e2, if_pos hy]
    · by_cases e3 : a0 = 3
      · rw [if_pos (Or.inr e3)] at hy
        rw [if_neg e2, if_pos e3, if_pos hy]
      · rw [if_neg (fun q => q.elim e2 e3)] at hy
        rw [if_neg e2, if_neg e3, if_pos hy]
  have t590 : ∀ y0 : Int32, f6_hangs_590 K (nI N) x3 x4 x5 (nI c) a0 y0 y0 mu = f6_hangs_634 K (nI N) x3 x4 x5 (nI c) a0 1 mu := fun y0 => by
    unfold f6_hangs_590
    rw [if_pos rfl, R0, ob]
    by_cases e : a0 = 2 ∨ a0 = 3
    · rw [if_pos e]
      have : ¬ (if fmul S.1 N = 0 then (2 : Int32) else 0) = 1 := by split <;> decide
      rw [if_neg this]
      exact t609 1 (by rw [if_pos e])
    · rw [if_neg e, if_pos rfl]
      exact t609 0 (by rw [if_neg e])
  have t564 : f6_hangs_564 K (nI N) x3 x4 x5 (nI c) a0 mu = f6_hangs_634 K (nI N) x3 x4 x5 (nI c) a0 1 mu := by
    unfold f6_hangs_564 f6_hangs_580
    rw [R1, ob]
    by_cases e : a0 = 0
    · have : ¬ (if bar S.1 N = true then (2 : Int32) else 0) = 1 := by split <;> decide
      rw [if_pos e, if_neg this, if_pos e]
      exact t590 1
    · rw [if_neg e, if_pos rfl, if_neg e]
      exact t590 0
  have t527 : f6_hangs_527 K (nI N) x3 x4 x5 (nI c) a0 a4 mu = f6_hangs_634 K (nI N) x3 x4 x5 (nI c) a0 1 mu := by
    unfold f6_hangs_527 f6_hangs_532
    rw [if_neg n10]
    by_cases e : a0 = 1
    · obtain ⟨M, s1, s2⟩ := S2 e
      rw [if_pos e, s1, ob, if_pos s2]
      exact t564
    · rw [if_neg e]
      exact t564
  have t506 : f6_hangs_506 K (nI N) x3 x4 x5 (nI c) a0 a4 mu = f6_hangs_634 K (nI N) x3 x4 x5 (nI c) a0 1 mu := by
    unfold f6_hangs_506
    by_cases e : a0 = 4
    · have := p5 e
      rw [if_pos e, if_neg (by rw [i_le, z0]; omega), C2, ob, if_pos this.2]
      exact t527
    · rw [if_neg e]
      exact t527
  have t455 : f6_hangs_455 K (nI N) x3 x4 x5 (nI c) a0 a4 mu = f6_hangs_634 K (nI N) x3 x4 x5 (nI c) a0 1 mu := by
    unfold f6_hangs_455
    by_cases e : a0 = 3
    · obtain ⟨s1, s2, ⟨M, s3, s4⟩, M2, s5, s6⟩ := S3 e
      rw [if_pos e, if_pos s1, if_neg s2, s3, ob, if_pos s4, s5, ob, if_neg s6]
      exact t506
    · rw [if_neg e]
      exact t506
  have t421 : f6_hangs_421 K (nI N) x3 x4 x5 (nI c) a0 a4 mu = f6_hangs_634 K (nI N) x3 x4 x5 (nI c) a0 1 mu := by
    unfold f6_hangs_421
    by_cases e : a0 = 2
    · obtain ⟨s1, s2, s3⟩ := p3 e
      rw [if_pos e, if_pos s1, C1, ob, if_pos s2, C2, ob, if_pos s3]
      exact t455
    · rw [if_neg e]
      exact t455
  have t397 : f6_hangs_397 K (nI N) x3 x4 x5 (nI c) a0 a4 mu = f6_hangs_634 K (nI N) x3 x4 x5 (nI c) a0 1 mu := by
    have t407 : f6_hangs_407 K (nI N) x3 x4 x5 (nI c) a0 a4 mu = f6_hangs_634 K (nI N) x3 x4 x5 (nI c) a0 1 mu := by
      unfold f6_hangs_407
      by_cases e : a0 = 1
      · have := sml_i (q6 (Or.inl e)) (by omega)
        rw [if_pos e, if_neg (by rw [i_le, show (300 : Int32).toInt = 300 from rfl]; omega)]
        exact t421
      · rw [if_neg e]
        exact t421
    unfold f6_hangs_397
    by_cases e : a0 = 0
    · rw [if_pos e, if_pos (p2 e)]
      exact t407
    · rw [if_neg e]
      exact t407
  have t383 : f6_hangs_383 K (nI N) x3 x4 x5 (nI c) a0 a4 a3 (fF a2 a5) (fF a2 a5) mu = f6_hangs_634 K (nI N) x3 x4 x5 (nI c) a0 1 mu := by
    unfold f6_hangs_383
    rw [if_pos rfl]
    by_cases e : a0 = 1
    · rw [if_pos e]
      exact t397
    · rw [if_neg e, if_pos (p1 e)]
      exact t397
  rw [← t634, ← t383]
  simp only [f6_hangs_158]
  rw [← hK, if_neg (by rw [n_le (by omega) (by omega)]; omega), if_neg n10, C0, ob, C4, ob, C3, ob, C6, ob, ca1, ob, if_pos ca2,
    if_neg (by rw [i_lt, z0]; omega), if_neg (by rw [i_lt, show (300 : Int32).toInt = 300 from rfl]; omega), if_neg (by rw [i_lt, z0]; omega), if_neg (by rw [i_lt, show (40 : Int32).toInt = 40 from rfl]; omega),
    C9, ob, if_neg (by rw [i_lt]; omega), ob, if_neg (by rw [i_lt, show (40 : Int32).toInt = 40 from rfl]; omega),
    C1, ob, if_neg (by rw [i_lt, z0]; omega), ob, if_neg (by rw [i_lt, show (20 : Int32).toInt = 20 from rfl]; omega),
    C2, ob, if_neg (by rw [i_lt, z0]; omega), ob, if_neg (by rw [i_le, show (10 : Int32).toInt = 10 from rfl]; omega),
    C5, ob, if_neg (by rw [i_lt, z0]; omega), ob, if_neg (by rw [i_lt, show (200 : Int32).toInt = 200 from rfl]; omega),
    C8, ob, if_neg (by rw [i_lt, z0]; omega), ob]
  unfold fF
  by_cases e : a5 ≤ 100
  · rw [if_pos e, ob, if_neg (by rw [i_le] at e; rw [i_lt]; omega)]
  · rw [if_neg e, ob, if_pos (by rw [i_le] at e; rw [i_lt]; omega)]
theorem ha_158 {B : Int} (h : AS mu S) (hJ : JN B N S.1) : ∀ d c fuel, N - c = d → c ≤ N → d < fuel →
    f6_hangs_158 fuel (nI N) (smN (oreC S.1) c) (smN (delC S.1) c) (nI (ctN (isSt S.1 4) c)) 1 (nI c) mu = f6_hangs_681 (smN (oreC S.1) N) (smN (delC S.1) N) (nI (ctN (isSt S.1 4) N)) 1 mu := by
  have hN := hJ.2.1
  intro d
  induction d with
  | zero =>
    intro c fuel hd hc hf
    obtain ⟨n, rfl⟩ : ∃ n, fuel = n + 1 := ⟨fuel - 1, by omega⟩
    obtain rfl : c = N := by omega
    simp only [f6_hangs_158, if_pos (Int32.le_refl _)]
  | succ d ih =>
    intro c fuel hd hc hf
    obtain ⟨n, rfl⟩ : ∃ n, fuel = n + 1 := ⟨fuel - 1, by omega⟩
    rw [← ih (c + 1) n (by omega) (by omega) (by omega), ha_c h hJ (show c < N by omega)]
    have e : nI (ctN (isSt S.1 4) c) + (if isSt S.1 4 c = true then 1 else 0) = nI (ctN (isSt S.1 4) (c + 1)) := by
      cases hs : isSt S.1 4 c
      · rw [ct_f hs, if_neg (by decide), Int32.add_zero]
      · rw [ct_t hs, if_pos rfl, ad_1]
    rw [e]
    rfl
def rkB (w : Vc) (N k c : Nat) : Bool := isSt w 1 c && decide (rk w c N < k)
theorem ha_690 {B : Int} {x3 x4 x5 : Int32} (h : AS mu S) (hJ : JN B N S.1) : ∀ d k fuel x7, 8 - k = d → k ≤ 8 → d < fuel → (x7 = -1 ∨ ∃ e, e < N ∧ x7 = nI e ∧ isSt S.1 1 e = true ∧ rk S.1 e N < k) →
    f6_hangs_690 fuel x3 x4 x5 1 x7 (mkN (rkB S.1 N k) N) (nI k) mu = f6_hangs_777 x3 x4 x5 1 (mkN (isSt S.1 1) N) mu := by
  obtain ⟨hI, hN, hw, hC, hF, hs, hd, hn, ht, hr⟩ := hJ
  intro d
  induction d with
  | zero =>
    intro k fuel x7 hd hk hf h7
    obtain ⟨n, rfl⟩ : ∃ n, fuel = n + 1 := ⟨fuel - 1, by omega⟩
    obtain rfl : k = 8 := by omega
    simp only [f6_hangs_690, if_pos (show (8 : Int32) ≤ nI 8 by decide)]
    congr 1
    refine mk_congr (fun c hc => ?_)
    unfold rkB
    cases e : isSt S.1 1 c
    · rfl
    · have h1 := rk_nr hc e
      have h2 := nr_le (w := S.1) (j := N)
      rw [decide_eq_true (show rk S.1 c N < 8 by omega)]
      rfl
  | succ d ih =>
    intro k fuel x7 hd hk hf h7
    obtain ⟨n, rfl⟩ : ∃ n, fuel = n + 1 := ⟨fuel - 1, by omega⟩
    obtain ⟨r, e1, hr2⟩ := ro_sJ (k := k) h hN hw (by omega)
    simp only [f6_hangs_690]
    rw [if_neg (by rw [show (8 : Int32) = nI 8 from rfl, n_le (by omega) (by omega)]; omega), if_neg n10, e1, ob]
    rcases hr2 with ⟨c, hc, hs2, hk2, rfl⟩ | ⟨rfl, hno⟩
    · have C0 : f6_carOf_0 mu (nI c) 0 = some (S.1 (90 + 9 * c + 0)) := cr_s (j := 0) h hN hw hc (by omega)
      have C4 : f6_carOf_0 mu (nI c) 4 = some (S.1 (90 + 9 * c + 4)) := cr_s (j := 4) h hN hw hc (by omega)
      have e2 : mkN (rkB S.1 N k) N ||| (1 <<< (nI c &&& 31)) = mkN (rkB S.1 N (k + 1)) N := by
        rw [show (1 : Int32) <<< (nI c &&& 31) = bitN c from rfl, mk_add hc]
        refine mk_congr (fun e he => ?_)
        unfold rkB
        by_cases ec : e = c
        · subst ec
          rw [hs2, decide_eq_true (show rk S.1 e N < k + 1 by omega), decide_eq_true (show e = e from rfl)]
          simp
        · cases es : isSt S.1 1 e
          · simp [ec]
          · have hne : rk S.1 e N ≠ k := fun q => ec (rk_inj he hc es hs2 (q.trans hk2.symm))
            by_cases q : rk S.1 e N < k
            · rw [decide_eq_true q, decide_eq_true (show rk S.1 e N < k + 1 by omega)]; rfl
            · rw [decide_eq_false q, decide_eq_false ec, decide_eq_false (show ¬ rk S.1 e N < k + 1 by omega)]; rfl
      have nxt : f6_hangs_751 (f6_hangs_690 n) x3 x4 x5 (mkN (rkB S.1 N k) N) (nI k) (nI c) mu = f6_hangs_777 x3 x4 x5 1 (mkN (isSt S.1 1) N) mu := by
        unfold f6_hangs_751 f6_hangs_756 f6_hangs_771
        rw [e2, ad_1]
        exact ih (k + 1) n (nI c) (by omega) (by omega) (by omega) (Or.inr ⟨c, hc, rfl, hs2, by omega⟩)
      rw [if_neg (nI_n0 (by omega)), C0, ob, if_pos (st_i.mp hs2)]
      rcases h7 with rfl | ⟨e, he, rfl, es, ek⟩
      · rw [if_pos (by decide)]
        exact nxt
      · have D4 : f6_carOf_0 mu (nI e) 4 = some (S.1 (90 + 9 * e + 4)) := cr_s (j := 4) h hN hw he (by omega)
        have hne : e ≠ c := fun q => by subst q; omega
        have hah : aheadB S.1 e c = true := by
          rcases ah_tri (w := S.1) (c := c) (d := e) hne with q | q
          · exact q
          · have := rk_lt (w := S.1) (c := e) (d := c) hc hs2 q
            omega
        have hpl := ahead_i.mp hah
        have hfar := hF e c he hc hne (st_i.mp es) (st_i.mp hs2)
        have pe := sml_i (inv_p hI (c := e) (by omega)) (by omega)
        have pc := sml_i (inv_p hI (c := c) (by omega)) (by omega)
        have hsub : (S.1 (90 + 9 * e + 4) - S.1 (90 + 9 * c + 4)).toInt = (S.1 (90 + 9 * e + 4)).toInt - (S.1 (90 + 9 * c + 4)).toInt := by rw [i_sub] <;> omega
        rw [if_neg (nI_n0 (by omega)), D4, ob, C4, ob, if_neg (by
          rw [i_lt, hsub, show (10 : Int32).toInt = 10 from rfl]
          rw [i_lt, i_eq] at hpl
          omega)]
        exact nxt
    · rw [if_pos (by decide)]
      unfold f6_hangs_771
      have e2 : mkN (rkB S.1 N k) N = mkN (rkB S.1 N (k + 1)) N := by
        refine mk_congr (fun e he => ?_)
        unfold rkB
        cases es : isSt S.1 1 e
        · rfl
        · have hne := hno e he es
          have : rk S.1 e N < k ↔ rk S.1 e N < k + 1 := by omega
          rw [decide_eq_decide.mpr this]
      rw [e2, ad_1]
      exact ih (k + 1) n x7 (by omega) (by omega) (by omega) (h7.imp id (fun ⟨e, he, h1, h2, h3⟩ => ⟨e, he, h1, h2, by omega⟩))
theorem ore_sum {B : Int} (hJ : JN B N S.1) (hB : B ≤ 1000000000) : (smN (oreC S.1) N).toInt = smI (oreI S.1) N ∧ smN (delC S.1) N = S.1 165 ∧ 0 ≤ smI (oreI S.1) N := by
  obtain ⟨hI, hN, hw, hC, hF, hs, hd, hn, ht, hr⟩ := hJ
  have ho : ∀ c, c < N → 0 ≤ (oreC S.1 c).toInt := fun c hc => (sml_i (inv_c hI (c := c) (by omega)).2.1 (by omega)).1
  have hnn : 0 ≤ smI (oreI S.1) N := smI_nn ho
  have e1 : (smN (oreC S.1) N).toInt = smI (oreI S.1) N := smN_I ho (show smI (oreI S.1) N < 2147483648 by omega) N (Nat.le_refl _)
  have hdl : ∀ c, c < N → 0 ≤ (delC S.1 c).toInt := fun c hc => (hC c hc).2.2.2.2.2.2.1.1
  have e2 : (smN (delC S.1) N).toInt = smI (delI S.1) N := smN_I hdl (show smI (delI S.1) N < 2147483648 by omega) N (Nat.le_refl _)
  exact ⟨e1, by rw [i_eq, e2]; exact hd.symm, hnn⟩
theorem ha_883 {B : Int} (h : AS mu S) (hJ : JN B N S.1) (hB : B ≤ 1000000000) : f6_hangs_883 (smN (oreC S.1) N) (smN (delC S.1) N) (nI (ctN (isSt S.1 4) N)) 1 mu = some (1, mu) := by
  obtain ⟨o1, o2, o3⟩ := ore_sum hJ hB
  obtain ⟨hI, hN, hw, hC, hF, hs, hd, hn, ht, hr⟩ := hJ
  have K13 : f6_count_0 mu 13 = some (S.1 170) := cn_s (j := 13) h hN hw (by omega) (by omega)
  have K6 : f6_count_0 mu 6 = some (smN (oreC S.1) N) := cn_s (j := 6) h hN hw (by omega) (by omega)
  have K4 : f6_count_0 mu 4 = some (S.1 165) := cn_s (j := 4) h hN hw (by omega) (by omega)
  have K3 : f6_count_0 mu 3 = some (S.1 164) := cn_s (j := 3) h hN hw (by omega) (by omega)
  have K5 : f6_count_0 mu 5 = some (S.1 166) := cn_s (j := 5) h hN hw (by omega) (by omega)
  have K7 : f6_count_0 mu 7 = some (fmul S.1 N) := cn_s (j := 7) h hN hw (by omega) (by omega)
  have e164 : S.1 164 = S.1 165 + S.1 166 + smN (oreC S.1) N := by
    have a1 : (S.1 165 + S.1 166).toInt = (S.1 165).toInt + (S.1 166).toInt := by rw [i_add] <;> omega
    have a2 : (S.1 165 + S.1 166 + smN (oreC S.1) N).toInt = (S.1 165).toInt + (S.1 166).toInt + smI (oreI S.1) N := by rw [i_add] <;> rw [a1, o1] <;> omega
    rw [i_eq, a2]; exact hs
  have fin9 : ∀ y : Int32, fmul S.1 N = y → f6_hangs_959 y (fmul S.1 N) mu = some (1, mu) := fun y hy => by
    unfold f6_hangs_959 f6_hangs_975
    rw [if_pos hy, K5, ob, if_neg (by rw [i_lt, show (0 : Int32).toInt = 0 from rfl]; omega), gz_1]
  unfold f6_hangs_883
  rw [K13, ob, if_neg n10, K6, ob, if_pos rfl, K4, ob, if_pos o2, K3, ob, ob, K5, ob, if_pos e164, K7, ob]
  by_cases e : S.1 170 - nI (ctN (isSt S.1 4) N) ≤ 0
  · rw [if_pos e]
    exact fin9 0 (if_neg (not_lt_le.mpr e))
  · rw [if_neg e]
    exact fin9 _ (if_pos (not_le_lt.mp e))
theorem ha_816 {B : Int} (h : AS mu S) (hJ : JN B N S.1) (hB0 : 0 ≤ B) (hB : B ≤ 800000000) : ∃ mu', f6_hangs_816 (smN (oreC S.1) N) (smN (delC S.1) N) (nI (ctN (isSt S.1 4) N)) (mkN (isSt S.1 1) N) mu = some (1, mu') ∧ AS mu' S := by
  have hN := hJ.2.1
  have hw := hJ.2.2.1
  obtain ⟨o1, o2, o3⟩ := ore_sum hJ (by omega)
  obtain ⟨_, _, d2, d3⟩ := pa_J (T := 5) (by omega) hJ hB0 (by omega) (fun _ => 0)
  obtain ⟨_, _, n2, n3⟩ := pa_J (T := 9) (by omega) hJ hB0 (by omega) (fun _ => 0)
  obtain ⟨m1, e1, A1⟩ := ir_s (T := 5) (j := 4) h hJ hB0 (by omega) (by omega) (by omega) (by omega)
  obtain ⟨m2, e2, A2⟩ := ir_s (T := 5) (j := 4) A1 hJ hB0 (by omega) (by omega) (by omega) (by omega)
  obtain ⟨m3, e3, A3⟩ := ir_s (T := 5) (j := 2) A2 hJ hB0 (by omega) (by omega) (by omega) (by omega)
  obtain ⟨m4, e4, A4⟩ := ir_s (T := 9) (j := 0) A3 hJ hB0 (by omega) (by omega) (by omega) (by omega)
  obtain ⟨m5, e5, A5⟩ := ir_s (T := 9) (j := 1) A4 hJ hB0 (by omega) (by omega) (by omega) (by omega)
  have f1 : f6_ifRun_0 5 4 mu = some (mkN (isSt (tkT 5 S.1) 1) N, m1) := e1
  have f2 : f6_ifRun_0 5 4 m1 = some (mkN (isSt (tkT 5 S.1) 1) N, m2) := e2
  have f3 : f6_ifRun_0 5 2 m2 = some (mkN (isSt (tkT 5 S.1) 3) N, m3) := e3
  have f4 : f6_ifRun_0 9 0 m3 = some (tkT 9 S.1 165 - S.1 165, m4) := e4
  have f5 : f6_ifRun_0 9 1 m4 = some (tkT 9 S.1 166 - S.1 166, m5) := e5
  have c3 : f6_cars_0 m3 3 = some (mkN (isSt S.1 3) N) := ca_s (j := 3) A3 hN hw (by omega)
  have g1 : mkN (isSt (tkT 5 S.1) 1) N &&& (mkN (isSt S.1 1) N ^^^ -1) = 0 := mk_not hN (Nat.le_refl _) (fun c hc q => st_i.mpr (d3.1 c hc (st_i.mp q)))
  have g2 : mkN (isSt (tkT 5 S.1) 3) N &&& mkN (isSt S.1 3) N = mkN (isSt S.1 3) N := mk_sub hN (Nat.le_refl _) (fun c hc q => st_i.mpr (d3.2.1 c hc (st_i.mp q)))
  have g3 : ¬ smN (oreC S.1) N < (tkT 9 S.1 165 - S.1 165) + (tkT 9 S.1 166 - S.1 166) := by
    obtain ⟨hI, hN, hw, hC, hF, hs, hd, hn, ht, hr⟩ := hJ
    obtain ⟨hI', hN', hw', hC', hF', hs', hd', hn', ht', hr'⟩ := n2
    have h0' : 0 ≤ smI (oreI (tkT 9 S.1)) N := smI_nn (fun c hc => (sml_i (inv_c hI' (c := c) (by omega)).2.1 (by omega)).1)
    have hl := n3.2.2
    have hl' : (tkT 9 S.1 164).toInt = (S.1 164).toInt := by rw [hl]
    have a1 : (tkT 9 S.1 165 - S.1 165).toInt = (tkT 9 S.1 165).toInt - (S.1 165).toInt := by rw [i_sub] <;> omega
    have a2 : (tkT 9 S.1 166 - S.1 166).toInt = (tkT 9 S.1 166).toInt - (S.1 166).toInt := by rw [i_sub] <;> omega
    have a3 : ((tkT 9 S.1 165 - S.1 165) + (tkT 9 S.1 166 - S.1 166)).toInt = (tkT 9 S.1 165).toInt - (S.1 165).toInt + ((tkT 9 S.1 166).toInt - (S.1 166).toInt) := by rw [i_add] <;> rw [a1, a2] <;> omega
    rw [i_lt, o1, a3]
    omega
  refine ⟨m5, ?_, A5⟩
  unfold f6_hangs_816
  rw [f1, ob, if_neg (mk_nn hN), f2, ob, if_pos g1, f3, ob, c3, ob, ob, if_pos g2, f4, ob, f5, ob, if_neg g3]
  exact ha_883 A5 hJ (by omega)
theorem ha_777 {B : Int} (h : AS mu S) (hJ : JN B N S.1) (hB0 : 0 ≤ B) (hB : B ≤ 800000000) : ∃ mu', f6_hangs_777 (smN (oreC S.1) N) (smN (delC S.1) N) (nI (ctN (isSt S.1 4) N)) 1 (mkN (isSt S.1 1) N) mu = some (1, mu') ∧ AS mu' S := by
  have hN := hJ.2.1
  have hw := hJ.2.2.1
  have c1 : f6_cars_0 mu 1 = some (mkN (isSt S.1 1) N) := ca_s (j := 1) h hN hw (by omega)
  have r8 : f6_rolling_0 mu 8 = some (-1) := by
    obtain ⟨r, e1, hr2⟩ := ro_sJ (k := 8) h hN hw (by omega)
    rcases hr2 with ⟨c, hc, hs2, hk2, rfl⟩ | ⟨rfl, -⟩
    · have h1 := rk_nr hc hs2
      have h2 := nr_le (w := S.1) (j := N)
      omega
    · exact e1
  unfold f6_hangs_777
  rw [if_neg n10, c1, ob, if_pos rfl, r8, ob, if_pos rfl]
  by_cases e : 0 < mkN (isSt S.1 1) N
  · rw [if_pos e]
    exact ha_816 h hJ hB0 hB
  · have h0 : mkN (isSt S.1 1) N = 0 := by
      have a := mk_nn (P := isSt S.1 1) hN
      rw [i_lt, show (0 : Int32).toInt = 0 from rfl] at a e
      rw [i_eq, show (0 : Int32).toInt = 0 from rfl]
      omega
    have hno := (mk_0 hN).mp h0
    have hz : nr S.1 N = 0 := by
      unfold nr
      rw [ct_congr (Q := fun _ => false) (n := N) hno]
      clear hno h0 e r8 c1 h hJ hw
      induction N with
      | zero => rfl
      | succ n ih => rw [ct_f rfl]; exact ih (by omega)
    obtain ⟨r, m1, m2, m3⟩ := ms_s hJ.1 hN hw
    rw [if_neg e, m1 mu h.1, ob, m3 hz, if_pos fc_0]
    exact ha_816 h hJ hB0 hB
theorem g_hangs {B : Int} (h : AS mu S) (hJ : JS B S) (hB : B ≤ 800000000) : ∃ mu', f6_hangs_0 mu = some (1, mu') ∧ AS mu' S := by
  obtain ⟨N, hJN⟩ := hJ.1
  have hN := hJN.2.1
  have hw := hJN.2.2.1
  have K1 : f6_count_0 mu 1 = some (nI N) := (cn_s (j := 1) h hN hw (by omega) (by omega)).trans (congrArg some hw)
  have K0 : f6_count_0 mu 0 = some (S.1 163) := cn_s (j := 0) h hN hw (by omega) (by omega)
  have K2 : f6_count_0 mu 2 = some (nI (ctN (isSw S.1) 30)) := cn_s (j := 2) h hN hw (by omega) (by omega)
  have K9 : f6_count_0 mu 9 = some (nI S.2.2.1) := cn_s (j := 9) h hN hw (by omega) (by omega)
  have h4 : ctN (isSw S.1) 30 ≤ 4 := hJN.1.2.2.2.2.2.1
  have h6 := h.2.2.2.1
  have ht := hJN.2.2.2.2.2.2.2.2.1.1
  have e76 : ∃ mu', f6_hangs_76 (nI N) 0 0 0 0 1 mu = some (1, mu') ∧ AS mu' S := by
    unfold f6_hangs_76
    have b0 : (0 : Int32) = mkN (stB S.1 0) N := by
      refine ((mk_0 hN).mpr (fun c hc => ?_)).symm
      refine decide_eq_false ?_
      have := sml_i (inv_c hJN.1 (c := c) (by omega)).1 (by omega)
      omega
    have l1 := ha_81 h hN hw 5 0 10 rfl (by omega) (by omega)
    rw [← b0] at l1
    have l1' : f6_hangs_81 10 (nI N) 0 0 0 0 1 0 mu = _ := l1
    rw [l1']
    have full : mkN (stB S.1 5) N = ((1 : Int32) <<< (nI N &&& 31)) - 1 := mk_full hN (fun c hc => decide_eq_true (by have := sml_i (inv_c hJN.1 (c := c) (by omega)).1 (by omega); omega))
    unfold f6_hangs_134 f6_hangs_153
    rw [if_neg n10, if_pos full]
    have l2 := ha_158 h hJN N 0 10 rfl (by omega) (by omega)
    have l2' : f6_hangs_158 10 (nI N) 0 0 0 1 0 mu = _ := l2
    rw [l2']
    unfold f6_hangs_681
    have l3 := ha_690 (x3 := smN (oreC S.1) N) (x4 := smN (delC S.1) N) (x5 := nI (ctN (isSt S.1 4) N)) h hJN 8 0 10 (-1) rfl (by omega) (by omega) (Or.inl rfl)
    have b1 : mkN (rkB S.1 N 0) N = 0 := (mk_0 hN).mpr (fun c hc => by unfold rkB; rw [decide_eq_false (show ¬ rk S.1 c N < 0 by omega)]; simp)
    rw [b1] at l3
    have l3' : f6_hangs_690 10 (smN (oreC S.1) N) (smN (delC S.1) N) (nI (ctN (isSt S.1 4) N)) 1 (-1) 0 0 mu = _ := l3
    rw [l3']
    exact ha_777 h hJN hJ.2.2.2 hB
  unfold f6_hangs_0
  rw [K1, ob, if_neg (nI_n0 (by omega)), if_neg (by rw [show (8 : Int32) = nI 8 from rfl, n_lt (by omega) (by omega)]; omega), K0, ob, if_neg (by rw [i_lt, show (0 : Int32).toInt = 0 from rfl]; omega), K2, ob, if_neg (nI_n0 (by omega)), ob, if_neg (by rw [show (4 : Int32) = nI 4 from rfl, n_lt (by omega) (by omega)]; omega), K9, ob, if_neg (nI_n0 (by omega)), ob, if_neg (by rw [show (7 : Int32) = nI 7 from rfl, n_le (by omega) (by omega)]; omega)]
  exact e76
end Hangs
