-- ===== 8F: the next fetch =====
theorem would_fetch {s kd tg oc ln : Nat → Int32} {pn tm ft xe th ms fl lf : Int32} {row : Nat → Int32} {M : Nat → Nat → Int32} {sz us : Nat → Int32} {lu pu re : Int32} {ct cn : Nat → Int32} {nx : Int32} {B : Nat} (h : FRl s kd tg oc ln pn tm ft xe th ms fl lf row M sz us lu pu re ct cn nx B) (hB : B + 9 < 2147483648) {kd2 tg2 oc2 ln2 ct2 cn2 : Nat → Int32} (hP2 : PR s kd2 tg2 oc2 ln2 ct2 cn2 nx) (A0 P0 : Nat → Int32) (m0 w0 : Int32) (FA0 FP0 : Nat → Int32) (Fs Fp Fe Fm : Int32) :
    ∃ e d x t A P m w p A' P' ct' cn' nx', m ≤ 8 ∧ WR x w p ∧ (∀ i, i < m → A i = A' i) ∧ m_X7_looks s A0 P0 m0 w0 = some (A, P, nI m, w) ∧ m_X7_fetches s A0 P0 m0 w0 = some (nI e, t, A, P, nI m, w) ∧ t 383 = s 383 + nI d ∧ m_X1_choose M sz kd tg cn nx FA0 FP0 Fs Fp = some (A', P', nI m, p) ∧ m_X1_execute kd2 tg2 oc2 ln2 A' P' (nI m) ct2 cn2 nx Fe Fm = some (ct', cn', nx', nI e, nI d) := by
  obtain ⟨hP, hI, hM, v1, v2, v3, v4, v5, v6, v7⟩ := h
  obtain ⟨x, hx, hs⟩ := hI.2
  have hq : x % 4 < 4 := Nat.mod_lt _ (by decide)
  obtain ⟨m, a, w, p, m1, m8, ha, hw, hl, hch⟩ := choose_sim hP hM.1 hM.2.1 hx hs
  obtain ⟨A, P, l1, l2⟩ := hl A0 P0 m0 w0
  obtain ⟨A', P', l3, l4⟩ := hch FA0 FP0 Fs Fp
  have hA : ∀ i, i < m → A i = nI (a i) ∧ P i = b2i (pT s (a i)) ∧ A' i = nI (a i) ∧ P' i = b2i (pT s (a i)) ∧ a i < 48 ∧ (kd2 (a i) ≠ 2 → pT s (a i) = false) := by
    intro i hi
    refine ⟨(l2 i hi).1, (l2 i hi).2, (l4 i hi).1, (l4 i hi).2, ha i hi, fun h => ?_⟩
    rw [(hP2.1 _ (ha i hi)).1] at h
    simp [pT, h]
  obtain ⟨hr1, hr2⟩ := r_fetches hx hs l1
  have main : ∃ S us1 lu1, (m_X7_fetches s A0 P0 m0 w0 = m_X7_fetches_80 4000 S A P (nI m) w (nI 0)) ∧ MR S pn row M sz us1 lu1 pu re (B + 1) ∧ (∀ j, j < 289 → S j = s j) ∧ S 383 = s 383 := by
    have g1 : ∀ j, j ≠ 379 → j ≠ 380 → fs1 s j = s j := fun j h1 h2 => by unfold fs1; rw [upd_n h1, upd_n h2]
    rcases hw with ⟨w1, w2⟩ | ⟨j, hj, w1, w2⟩
    · exact ⟨fs1 s, us, lu, hr1 w1, MR_mono (by omega) (MR_fs1 hM), fun j hj => g1 j (by omega) (by omega), g1 _ (by omega) (by omega)⟩
    · have hp : 2 * (x % 4) + j < 8 := by omega
      have g2 : ∀ i, i ≠ 385 → i ≠ 378 → i ≠ 290 + 10 * (2 * (x % 4) + j) → fs2 s (2 * (x % 4) + j) i = fs1 s i := fun i h1 h2 h3 => by unfold fs2; rw [upd_n h3, upd_n h2, upd_n h1]
      refine ⟨fs2 s (2 * (x % 4) + j), upd us (2 * (x % 4) + j) (lu + 1), lu + 1, hr2 j hj w1, MR_fs2 hp hM (by omega), fun i hi => ?_, ?_⟩
      · rw [g2 i (by omega) (by omega) (by omega), g1 i (by omega) (by omega)]
      · rw [g2 _ (by omega) (by omega) (by omega), g1 _ (by omega) (by omega)]
  obtain ⟨S, us1, lu1, s1, s2, s3, s4⟩ := main
  obtain ⟨e, d, t, ct', cn', nx', pn', row', M', sz', us', lu', pu', re', t1, t2, t3, t4, t5, t6, t7, t8, t9⟩ := fetch_loop m8 (w := w) hA m 0 4000 4000 4000 S ct2 cn2 nx pn row M sz us1 lu1 pu re (B + 1) 0 (by omega) (by omega) (by omega) (by omega) (PR_congr s3 hP2) (PI_congr s3 hI) s2 (by omega)
  rw [Nat.zero_add] at t4
  rw [Nat.sub_zero] at t9
  obtain ⟨u0, u1, u2, u3, u4, u5, u6, u7, u8⟩ := t9
  refine ⟨e, d, x, upd t 382 (t 382 + (nI m - nI e)), A, P, m, w, p, A', P', ct', cn', nx', m8, hw, fun i hi => ?_, l1, s1.trans t3, ?_, l3, ?_⟩
  · rw [(hA i hi).1, (hA i hi).2.2.1]
  · rw [upd_n (by omega), u5, s4]
  · unfold m_X1_execute
    exact t4
theorem WR_mod {x : Nat} {w p : Int32} (h : WR x w p) : (if p = -1 then (-1 : Int32) else p - p / 2 * 2) = w := by
  rcases h with ⟨w1, w2⟩ | ⟨j, hj, w1, w2⟩
  · rw [if_pos w2, w1]
  · have hq : x % 4 < 4 := Nat.mod_lt _ (by decide)
    rw [if_neg (by rw [w2]; exact nIm1 (by omega)), w2, mod2N (by omega), w1]
    congr 1
    omega
theorem sub_self_add (x y : Int32) : x + y - x = y := by rw [Int32.add_comm, Int32.add_sub_cancel]
theorem next_case {s kd tg oc ln : Nat → Int32} {pn tm ft xe th ms fl lf : Int32} {row : Nat → Int32} {M : Nat → Nat → Int32} {sz us : Nat → Int32} {lu pu re : Int32} {ct cn : Nat → Int32} {nx : Int32} {B : Nat} (h : FRl s kd tg oc ln pn tm ft xe th ms fl lf row M sz us lu pu re ct cn nx B) (hB : B + 9 < 2147483648) (O : Nat → Int64) (rk rt ro rl rc rn : Nat → Int32) (rx : Int32) (FA FP : Nat → Int32) (Fs Fp Fe Fm : Int32) (tw : Int32) (v f F : Nat → Int32) (m w : Int32) (x1 : Int32) :
    ∃ k O' b rk' rt' ro' rl' rc' rn' rx' FA' FP' Fs' Fp' Fe' Fm' t v' f' F' m' w', m_L_nextFetch M sz kd tg oc ln ct cn nx O rk rt ro rl rc rn rx FA FP Fs Fp Fe Fm x1 = some (k, O', rk', rt', ro', rl', rc', rn', rx', FA', FP', Fs', Fp', Fe', Fm') ∧ m_X7_nextFetch tw s v f F m w x1 = some (b, k, t, v', f', F', m', w') ∧ (k = 0 → lg_cmp (O' (Int32.toNatClampNeg 0)) (Int32.toInt64 b) = 0) ∧ ∀ j, j < 389 → t j = s j := by
  by_cases hx : 0 ≤ x1 ∧ x1 ≤ 3
  · have r0 := r_in_t hx.1 hx.2
    have g0 : ¬ x1 < 0 := by rw [i32_lt0]; exact not_not_intro hx.1
    have g1 : x1 ≤ 3 := hx.2
    obtain ⟨c, -, hc, rfl⟩ := rng (lo := 0) (hi := 3) (by omega) (by omega) hx.1 hx.2
    obtain ⟨e, d, x, t, A, P, m1, w1, p1, A', P', ct', cn', nx', y1, y2, y3, y4, y5, y6, y7, y8⟩ := would_fetch h hB (PR_copy h.1 rk rt ro rl rc rn) f F m w FA FP Fs Fp Fe Fm
    obtain ⟨u, u1, u2⟩ := r_aside s v
    obtain ⟨b, b1, b2⟩ := r_back u t
    have hu : u 383 = s 383 := u2 _ (by omega)
    have hm := WR_mod y2
    have rr : ∀ q, (if nI c = 0 then w1 else if nI c = 1 then nI m1 else if nI c = 2 then nI e else nI d) = q → m_X7_nextFetch tw s v f F m w (nI c) = some (q, 0, b, u, A, P, nI m1, w1) := by
      intro q hq
      unfold m_X7_nextFetch m_X7_nextFetch_15 m_X7_nextFetch_30 m_X7_wouldBe m_X7_wouldBe_64
      rw [r0, bn_s, if_neg (by first | decide | (dsimp only; decide)), r_holds0, bn_s, if_neg (by first | decide | (dsimp only; decide)), u1, bn_s, y5, bn_s, inb383, gd_s, gd_s, cl383, bdE, b1, bn_s]
      dsimp only
      rw [y6, hu, sub_self_add, ← hq]
      by_cases c0 : nI c = 0
      · rw [if_pos c0, if_pos c0, bn_s]
      · by_cases c1 : nI c = 1
        · rw [if_neg c0, if_pos c1, if_neg c0, if_pos c1, bn_s]
        · by_cases c2 : nI c = 2
          · rw [if_neg c0, if_neg c1, if_pos c2, if_neg c0, if_neg c1, if_pos c2, bn_s]
          · rw [if_neg c0, if_neg c1, if_neg c2, if_neg c0, if_neg c1, if_neg c2, bn_s]
    have tt : ∀ j, j < 389 → b j = s j := fun j hj => (b2 j hj).trans (u2 j hj)
    rcases (show c = 0 ∨ c = 1 ∨ c = 2 ∨ c = 3 by omega) with rfl | rfl | rfl | rfl
    · refine ⟨0, vp_updL O (Int32.toNatClampNeg 0) (Int32.toInt64 w1), w1, rk, rt, ro, rl, rc, rn, rx, A', P', nI m1, p1, Fe, Fm, b, u, A, P, nI m1, w1, ?_, rr w1 rfl, fun _ => O_ok, tt⟩
      unfold m_L_nextFetch m_X6_nextFetch m_X6_nextFetch_68
      rw [if_neg g0, if_pos g1, y7, bn_s, if_pos (show nI 0 = 0 from rfl)]
      dsimp only
      rw [← hm]
      by_cases q : p1 = -1
      · rw [if_pos q, if_pos q, bn_s, if_pos rfl, inb0_1, gd_s, bdE]
      · rw [if_neg q, if_neg q, bn_s, if_pos rfl, inb0_1, gd_s, bdE]
    · refine ⟨0, vp_updL O (Int32.toNatClampNeg 0) (Int32.toInt64 (nI m1)), nI m1, rk, rt, ro, rl, rc, rn, rx, A', P', nI m1, p1, Fe, Fm, b, u, A, P, nI m1, w1, ?_, rr (nI m1) rfl, fun _ => O_ok, tt⟩
      unfold m_L_nextFetch m_X6_nextFetch
      rw [if_neg g0, if_pos g1, y7, bn_s, if_neg (show ¬ nI 1 = 0 by decide), if_pos (show nI 1 = 1 from rfl), bn_s, if_pos rfl, inb0_1, gd_s, bdE]
    · refine ⟨0, vp_updL O (Int32.toNatClampNeg 0) (Int32.toInt64 (nI e)), nI e, va_cpy kd rk 0 0 48, va_cpy tg rt 0 0 48, va_cpy oc ro 0 0 48, va_cpy ln rl 0 0 48, ct', cn', nx', A', P', nI m1, p1, nI e, nI d, b, u, A, P, nI m1, w1, ?_, rr (nI e) rfl, fun _ => O_ok, tt⟩
      unfold m_L_nextFetch m_X6_nextFetch m_X6_nextFetch_129
      rw [if_neg g0, if_pos g1, y7, bn_s, if_neg (show ¬ nI 2 = 0 by decide), if_neg (show ¬ nI 2 = 1 by decide), prog_copy, bn_s, y8, bn_s, if_pos (show nI 2 = 2 from rfl), bn_s, if_pos rfl, inb0_1, gd_s, bdE]
    · refine ⟨0, vp_updL O (Int32.toNatClampNeg 0) (Int32.toInt64 (nI d)), nI d, va_cpy kd rk 0 0 48, va_cpy tg rt 0 0 48, va_cpy oc ro 0 0 48, va_cpy ln rl 0 0 48, ct', cn', nx', A', P', nI m1, p1, nI e, nI d, b, u, A, P, nI m1, w1, ?_, rr (nI d) rfl, fun _ => O_ok, tt⟩
      unfold m_L_nextFetch m_X6_nextFetch m_X6_nextFetch_129
      rw [if_neg g0, if_pos g1, y7, bn_s, if_neg (show ¬ nI 3 = 0 by decide), if_neg (show ¬ nI 3 = 1 by decide), prog_copy, bn_s, y8, bn_s, if_neg (show ¬ nI 3 = 2 by decide), bn_s, if_pos rfl, inb0_1, gd_s, bdE]
  · have kk : m_X6_nextFetch M sz kd tg oc ln ct cn nx rk rt ro rl rc rn rx FA FP Fs Fp Fe Fm x1 = some (2, 0, rk, rt, ro, rl, rc, rn, rx, FA, FP, Fs, Fp, Fe, Fm) := by
      unfold m_X6_nextFetch m_X6_nextFetch_9
      simp only [i32_lt0]
      by_cases g : 0 ≤ x1
      · rw [if_neg (not_not_intro g), if_neg (fun g' => hx ⟨g, g'⟩)]
      · rw [if_pos g]
    refine ⟨1, O, 0, rk, rt, ro, rl, rc, rn, rx, FA, FP, Fs, Fp, Fe, Fm, s, v, f, F, m, w, ?_, ?_, fun g => by simp at g, fun j hj => rfl⟩
    · unfold m_L_nextFetch
      rw [kk, bn_s, if_neg (by first | decide | (dsimp only; decide)), if_pos rfl]
    · unfold m_X7_nextFetch m_X7_nextFetch_15 m_X7_nextFetch_30
      rw [r_in_f hx, bn_s, if_pos rfl, r_holds1, bn_s, if_pos rfl]
theorem would_case {s kd tg oc ln : Nat → Int32} {pn tm ft xe th ms fl lf : Int32} {row : Nat → Int32} {M : Nat → Nat → Int32} {sz us : Nat → Int32} {lu pu re : Int32} {ct cn : Nat → Int32} {nx : Int32} {B : Nat} (h : FRl s kd tg oc ln pn tm ft xe th ms fl lf row M sz us lu pu re ct cn nx B) (hB : B + 9 < 2147483648) (O : Nat → Int64) (FA FP : Nat → Int32) (Fs Fp : Int32) (tw : Int32) (f F : Nat → Int32) (m w : Int32) (x1 : Int32) :
    ∃ k O' b FA' FP' Fs' Fp' f' F' m' w', m_L_wouldFetch M sz kd tg cn nx O FA FP Fs Fp x1 = some (k, O', FA', FP', Fs', Fp') ∧ m_X7_wouldFetch s tw f F m w x1 = some (b, k, f', F', m', w') ∧ (k = 0 → lg_cmp (O' (Int32.toNatClampNeg 0)) (Int32.toInt64 b) = 0) := by
  by_cases hx : 0 ≤ x1
  · obtain ⟨e, d, x, t, A, P, m1, w1, p1, A', P', ct', cn', nx', y1, y2, y3, y4, y5, y6, y7, y8⟩ := would_fetch h hB h.1 f F m w FA FP Fs Fp 0 0
    by_cases g : nI m1 ≤ x1
    · refine ⟨0, vp_updL O (Int32.toNatClampNeg 0) (Int32.toInt64 (-1)), -1, A', P', nI m1, p1, A, P, nI m1, w1, ?_, ?_, fun _ => O_ok⟩
      · unfold m_L_wouldFetch m_X6_wouldFetch m_X6_wouldFetch_59
        rw [if_pos hx, y7, bn_s, if_pos g, bn_s, if_pos rfl, inb0_1, gd_s, bdE]
      · unfold m_X7_wouldFetch m_X7_wouldFetch_10 m_X7_wouldFetch_40
        rw [if_pos hx, r_holds0, bn_s, if_neg (by first | decide | (dsimp only; decide)), y4, bn_s, if_pos g]
    · have hi : ∃ i, i < m1 ∧ x1 = nI i := by
        rw [i32_le, nI_toInt (by omega)] at g
        rw [i32_le, show (0 : Int32).toInt = 0 from rfl] at hx
        refine ⟨x1.toInt.toNat, by omega, Int32.toInt_inj.mp ?_⟩
        rw [nI_toInt (by omega)]
        omega
      obtain ⟨i, hi, rfl⟩ := hi
      refine ⟨0, vp_updL O (Int32.toNatClampNeg 0) (Int32.toInt64 (A i)), A i, A', P', nI m1, p1, A, P, nI m1, w1, ?_, ?_, fun _ => O_ok⟩
      · unfold m_L_wouldFetch m_X6_wouldFetch m_X6_wouldFetch_59
        rw [if_pos hx, y7, bn_s, if_neg g, inbN (by omega) (by omega), gd_s, bn_s, if_pos rfl, inb0_1, gd_s, bdE, clN (show i < 2147483648 by omega), y3 i hi]
      · unfold m_X7_wouldFetch m_X7_wouldFetch_10 m_X7_wouldFetch_40
        rw [if_pos hx, r_holds0, bn_s, if_neg (by first | decide | (dsimp only; decide)), y4, bn_s, if_neg g, inbN (by omega) (by omega), gd_s, clN (by omega)]
  · refine ⟨1, O, 0, FA, FP, Fs, Fp, f, F, m, w, ?_, ?_, fun g => by simp at g⟩
    · unfold m_L_wouldFetch m_X6_wouldFetch
      rw [if_neg hx, bn_s, if_neg (by first | decide | (dsimp only; decide)), if_pos rfl]
    · unfold m_X7_wouldFetch m_X7_wouldFetch_10
      rw [if_neg hx, r_holds1, bn_s, if_pos rfl]
