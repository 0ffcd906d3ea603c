-- ===== 72: a fetch and a run, both sides =====
theorem QQ_congr {s t : Nat → Int32} {pn : Int32} {row : Nat → Int32} {b : Nat} (hb : b ≤ 8) (h : ∀ j, 369 ≤ j → j < 378 → t j = s j) (hQ : QI s b) (hR : QR s pn row) : QI t b ∧ QR t pn row := by
  have e1 : zp t = zp s := by unfold zp; rw [h _ (by omega) (by omega)]
  have e2 : ∀ i, i < 8 → zq t i = zq s i := fun i hi => by unfold zq; rw [h _ (by omega) (by omega)]
  have hq := hQ.1
  refine ⟨⟨by omega, by rw [h _ (by omega) (by omega), e1]; exact hQ.2.1, fun i hi => ?_⟩, ⟨by rw [h _ (by omega) (by omega)]; exact hR.1, fun i hi => ?_⟩⟩
  · rw [e1] at hi
    rw [e2 i (by omega), h _ (by omega) (by omega)]
    exact hQ.2.2 i hi
  · rw [e1] at hi
    rw [h _ (by omega) (by omega)]
    exact hR.2 i hi
theorem MR_fs1 {s : Nat → Int32} {pn : Int32} {row : Nat → Int32} {M : Nat → Nat → Int32} {sz us : Nat → Int32} {lu pu re : Int32} {B : Nat} (hM : MR s pn row M sz us lu pu re B) : MR (fs1 s) pn row M sz us lu pu re B := by
  have h : ∀ j, j ≠ 379 → j ≠ 380 → fs1 s j = s j := fun j h1 h2 => by unfold fs1; rw [upd_n h1, upd_n h2]
  exact MR_congr (fun j h1 h2 => h j (by omega) (by omega)) (h _ (by omega) (by omega)) (h _ (by omega) (by omega)) hM
theorem MR_fs2 {s : Nat → Int32} {pn : Int32} {row : Nat → Int32} {M : Nat → Nat → Int32} {sz us : Nat → Int32} {lu pu re : Int32} {B p : Nat} (hp : p < 8) (hM : MR s pn row M sz us lu pu re B) (hB : B + 1 < 2147483648) : MR (fs2 s p) pn row M sz (upd us p (lu + 1)) (lu + 1) pu re (B + 1) := by
  obtain ⟨S, hS⟩ : ∃ S, S = upd (fs1 s) 385 (s 385 + 1) := ⟨_, rfl⟩
  have h : ∀ j, j ≠ 379 → j ≠ 380 → j ≠ 385 → S j = s j := fun j h1 h2 h3 => by rw [hS, upd_n h3]; unfold fs1; rw [upd_n h1, upd_n h2]
  have h378 : S 378 = s 378 := h _ (by omega) (by omega) (by omega)
  obtain ⟨c1, c2, c3, c4, c5⟩ := MR_congr (t := S) (fun j h1 h2 => h j (by omega) (by omega) (by omega)) (h _ (by omega) (by omega) (by omega)) (h _ (by omega) (by omega) (by omega)) hM
  have hT : TT S (upd (fs2 s p) 369 0) p := by
    unfold fs2
    rw [← hS, ← h378]
    refine ⟨upd_s, ?_, ?_, fun j h1 h2 h3 => ?_⟩
    · rw [upd_n (by omega), upd_n (by omega), upd_s]
    · rw [upd_n (by omega), upd_s]
    · rw [upd_n h1, upd_n h3, upd_n h2]
  obtain ⟨d1, d2, d3, -⟩ := TT_all hp hT c1 c2 c5 hB
  have f : ∀ j, j ≠ 369 → fs2 s p j = upd (fs2 s p) 369 0 j := fun j hj => (upd_n hj).symm
  have g : ∀ j, j ≠ 379 → j ≠ 380 → j ≠ 385 → j ≠ 378 → j ≠ 290 + 10 * p → fs2 s p j = s j := fun j h1 h2 h3 h4 h5 => by
    unfold fs2
    rw [← hS, upd_n h5, upd_n h4, h j h1 h2 h3]
  obtain ⟨q1, q2⟩ := QQ_congr (t := fs2 s p) (by omega) (fun j h1 h2 => g j (by omega) (by omega) (by omega) (by omega) (by omega)) hM.2.2.1 hM.2.2.2.1
  exact ⟨CR_congr d2 (fun j h1 h2 => f j (by omega)) (f _ (by omega)) (f _ (by omega)) (f _ (by omega)) d1, LI_congr (fun j h1 h2 => f j (by omega)) d2, q1, q2, UI_congr (fun j h1 h2 => f j (by omega)) (f _ (by omega)) d3⟩
theorem k_45 {kd tg oc ln ct cn : Nat → Int32} {nx pn tm ft xe th ms fl lf : Int32} {row : Nat → Int32} {M : Nat → Nat → Int32} {sz us : Nat → Int32} {lu pu re : Int32} {A P : Nat → Int32} {m p Fe Fm x1 x3 x4 : Int32} {K : (Int32) → (Int32) → (Int32) → (Int32) → (Int32) → (Int32) → (Int32) → (Int32) → (Nat → Int32) → (Nat → Nat → Int32) → (Nat → Int32) → (Nat → Int32) → (Int32) → (Int32) → (Int32) → (Nat → Int32) → (Nat → Int32) → (Int32) → (Nat → Int32) → (Nat → Int32) → (Int32) → (Int32) → (Int32) → (Int32) → (Int32) → (Int32) → Option ((Int32) × (Int32) × (Int32) × (Int32) × (Int32) × (Int32) × (Int32) × (Int32) × (Int32) × (Nat → Int32) × (Nat → Nat → Int32) × (Nat → Int32) × (Nat → Int32) × (Int32) × (Int32) × (Int32) × (Nat → Int32) × (Nat → Int32) × (Int32) × (Nat → Int32) × (Nat → Int32) × (Int32) × (Int32) × (Int32) × (Int32))} {ct' cn' : Nat → Int32} {nx' pn' : Int32} {row' : Nat → Int32} {M' : Nat → Nat → Int32} {sz' us' : Nat → Int32} {lu' pu' re' : Int32} {e d : Nat}
    (h : m_X1_execute_12 kd tg oc ln A P m 4000 ct cn nx 0 0 0 = some (ct', cn', nx', nI e, nI d)) (hc : COL kd tg oc ln A e 0 4000 pn row M sz us lu pu re pn' row' M' sz' us' lu' pu' re') :
    m_X3_runFetches_45 kd tg oc ln x1 K pn tm ft xe th ms fl lf row M sz us lu pu re ct cn nx A P m p Fe Fm x3 x4 = K pn' (tm + 1 + nI (3 * d)) (ft + 1) (xe + nI e) (th + (m - nI e)) (ms + nI d) (fl + wv p e) (lf + wv p 1) row' M' sz' us' lu' pu' re' ct' cn' nx' A P m p (nI e) (nI d) x3 (x4 + 1) := by
  have hx : m_X1_execute kd tg oc ln A P m ct cn nx Fe Fm = some (ct', cn', nx', nI e, nI d) := by
    unfold m_X1_execute
    exact h
  unfold m_X3_runFetches_45
  rw [hx, bn_s, k_tally, bn_s]
  exact hc x1 K _ _ _ _ _ _ _ _ _ _ _ _ _ _ _ _
theorem fetch_sim {s kd tg oc ln : Nat → Int32} {pn tm ft xe th ms fl lf : Int32} {row : Nat → Int32} {M : Nat → Nat → Int32} {sz us : Nat → Int32} {lu pu re : Int32} {ct cn : Nat → Int32} {nx : Int32} {B : Nat} (h : FRl s kd tg oc ln pn tm ft xe th ms fl lf row M sz us lu pu re ct cn nx B) (hB : B + 9 < 2147483648) (A0 P0 : Nat → Int32) (m0 w0 : Int32) (FA0 FP0 : Nat → Int32) (Fs Fp Fe Fm : Int32) :
    ∃ e t A P m w pn' tm' ft' th' ms' fl' lf' row' M' sz' us' lu' pu' re' ct' cn' nx' FA' FP' Fs' Fp' Fe' Fm', m_X7_fetches s A0 P0 m0 w0 = some (nI e, t, A, P, m, w) ∧ FRl t kd tg oc ln pn' tm' ft' (xe + nI e) th' ms' fl' lf' row' M' sz' us' lu' pu' re' ct' cn' nx' (B + 9) ∧ t 388 = s 388 ∧ (∀ b, b < 48 → t (6 * b) = s (6 * b)) ∧
    ∀ x1 n x3 x4, ¬ x1 ≤ x4 → m_X3_runFetches_8 kd tg oc ln x1 (n + 1) pn tm ft xe th ms fl lf row M sz us lu pu re ct cn nx FA0 FP0 Fs Fp Fe Fm x3 x4 = m_X3_runFetches_8 kd tg oc ln x1 n pn' tm' ft' (xe + nI e) th' ms' fl' lf' row' M' sz' us' lu' pu' re' ct' cn' nx' FA' FP' Fs' Fp' Fe' Fm' x3 (x4 + 1) := by
  obtain ⟨hP, hI, hM, v1, v2, v3, v4, v5, v6, v7⟩ := h
  obtain ⟨x, hx, hs⟩ := hI.2
  have hq : x % 4 < 4 := Nat.mod_lt _ (by decide)
  obtain ⟨m, a, w, p, m1, m8, ha, hw, hl, hch⟩ := choose_sim hP hM.1 hM.2.1 hx hs
  obtain ⟨A, P, l1, l2⟩ := hl A0 P0 m0 w0
  obtain ⟨A', P', l3, l4⟩ := hch FA0 FP0 Fs Fp
  have hA : ∀ i, i < m → A i = nI (a i) ∧ P i = b2i (pT s (a i)) ∧ A' i = nI (a i) ∧ P' i = b2i (pT s (a i)) ∧ a i < 48 ∧ (kd (a i) ≠ 2 → pT s (a i) = false) := by
    intro i hi
    refine ⟨(l2 i hi).1, (l2 i hi).2, (l4 i hi).1, (l4 i hi).2, ha i hi, fun h => ?_⟩
    rw [(hP.1 _ (ha i hi)).1] at h
    simp [pT, h]
  obtain ⟨hr1, hr2⟩ := r_fetches hx hs l1
  have main : ∃ S us1 lu1, (m_X7_fetches s A0 P0 m0 w0 = m_X7_fetches_80 4000 S A P (nI m) w (nI 0)) ∧ MR S pn row M sz us1 lu1 pu re (B + 1) ∧ (∀ j, j < 289 → S j = s j) ∧ S 379 = s 379 + 1 ∧ S 380 = s 380 + 1 ∧ S 385 = s 385 + wv w 1 ∧ (∀ j, 381 ≤ j → j ≠ 385 → S j = s j) ∧ ∀ x1 n x3 x4, ¬ x1 ≤ x4 → m_X3_runFetches_8 kd tg oc ln x1 (n + 1) pn tm ft xe th ms fl lf row M sz us lu pu re ct cn nx FA0 FP0 Fs Fp Fe Fm x3 x4 = m_X3_runFetches_45 kd tg oc ln x1 (m_X3_runFetches_8 kd tg oc ln x1 n) pn tm ft xe th ms fl lf row M sz us1 lu1 pu re ct cn nx A' P' (nI m) p Fe Fm x3 x4 := by
    have g1 : ∀ j, j ≠ 379 → j ≠ 380 → fs1 s j = s j := fun j h1 h2 => by unfold fs1; rw [upd_n h1, upd_n h2]
    have g379 : fs1 s 379 = s 379 + 1 := by unfold fs1; rw [upd_s]
    have g380 : fs1 s 380 = s 380 + 1 := by unfold fs1; rw [upd_n (by omega), upd_s]
    rcases hw with ⟨w1, w2⟩ | ⟨j, hj, w1, w2⟩
    · refine ⟨fs1 s, us, lu, hr1 w1, MR_mono (by omega) (MR_fs1 hM), fun j hj => g1 j (by omega) (by omega), g379, g380, ?_, fun j h1 h2 => g1 j (by omega) (by omega), fun x1 n x3 x4 hx4 => ?_⟩
      · unfold wv
        rw [if_pos w1, Int32.add_zero, g1 _ (by omega) (by omega)]
      · rw [m_X3_runFetches_8, if_neg hx4, l3, bn_s, if_pos w2]
    · have hp : 2 * (x % 4) + j < 8 := by omega
      have g2 : ∀ i, i ≠ 385 → i ≠ 378 → i ≠ 290 + 10 * (2 * (x % 4) + j) → fs2 s (2 * (x % 4) + j) i = fs1 s i := fun i h1 h2 h3 => by unfold fs2; rw [upd_n h3, upd_n h2, upd_n h1]
      refine ⟨fs2 s (2 * (x % 4) + j), upd us (2 * (x % 4) + j) (lu + 1), lu + 1, hr2 j hj w1, MR_fs2 hp hM (by omega), fun i hi => ?_, ?_, ?_, ?_, fun i h1 h2 => ?_, fun x1 n x3 x4 hx4 => ?_⟩
      · rw [g2 i (by omega) (by omega) (by omega), g1 i (by omega) (by omega)]
      · rw [g2 _ (by omega) (by omega) (by omega), g379]
      · rw [g2 _ (by omega) (by omega) (by omega), g380]
      · unfold wv
        rw [if_neg (by rw [w1]; exact nIm1 (by omega))]
        unfold fs2
        rw [upd_n (by omega), upd_n (by omega), upd_s]
        rfl
      · rw [g2 i (by omega) (by omega) (by omega), g1 i (by omega) (by omega)]
      · rw [m_X3_runFetches_8, if_neg hx4, l3, bn_s, if_neg (by rw [w2]; exact nIm1 (by omega)), w2, k_use hp, bn_s]
  obtain ⟨S, us1, lu1, s1, s2, s3, s4, s5, s6, s7, s8⟩ := main
  obtain ⟨e, d, t, ct', cn', nx', pn', row', M', sz', us', lu', pu', re', t1, t2, t3, t4, t5, t6, t7, t8, t9⟩ := fetch_loop m8 (w := w) hA m 0 4000 4000 4000 S ct cn nx pn row M sz us1 lu1 pu re (B + 1) 0 (by omega) (by omega) (by omega) (by omega) (PR_congr s3 hP) (PI_congr s3 hI) s2 (by omega)
  rw [Nat.zero_add] at t4
  rw [Nat.sub_zero] at t9
  obtain ⟨u0, u1, u2, u3, u4, u5, u6, u7, u8⟩ := t9
  have f : ∀ j, j ≠ 382 → upd t 382 (t 382 + (nI m - nI e)) j = t j := fun j hj => upd_n hj
  have e0 := wv_w hw
  refine ⟨e, upd t 382 (t 382 + (nI m - nI e)), A, P, nI m, w, pn', _, _, _, _, _, _, row', M', sz', us', lu', pu', re', ct', cn', nx', A', P', nI m, p, nI e, nI d, s1.trans t3, ⟨PR_congr (fun j hj => f j (by omega)) t6, PI_congr (fun j hj => f j (by omega)) t7, MR_mono (by omega) (MR_congr (fun j h1 h2 => f j (by omega)) (f _ (by omega)) (f _ (by omega)) t8), ?_, ?_, ?_, ?_, ?_, ?_, ?_⟩, ?_, fun b hb => ?_, fun x1 n x3 x4 hx4 => (s8 x1 n x3 x4 hx4).trans (k_45 t4 t5)⟩
  · rw [f _ (by omega), u1, s4, v1]
  · rw [f _ (by omega), u2, s5, v2]
  · rw [f _ (by omega), u3, s7 _ (by omega) (by omega), v3]
  · rw [upd_s, u4, s7 _ (by omega) (by omega), v4]
  · rw [f _ (by omega), u5, s7 _ (by omega) (by omega), v5]
  · rw [f _ (by omega), u6, s7 _ (by omega) (by omega), v6, e0]
  · rw [f _ (by omega), u7, s6, v7, e0]
  · rw [f _ (by omega), u8, s7 _ (by omega) (by omega)]
  · rw [f _ (by omega), u0 b hb, s3 _ (by omega)]
