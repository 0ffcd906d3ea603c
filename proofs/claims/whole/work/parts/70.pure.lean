-- ===== 70: executing a fetch =====
theorem addNN (x : Int32) (a b : Nat) : x + nI a + nI b = x + nI (a + b) := by rw [Int32.add_assoc, nI_add]
theorem wv_add (x w : Int32) (a b : Nat) : x + wv w a + wv w b = x + wv w (a + b) := by
  unfold wv
  by_cases h : w = -1
  · rw [if_pos h, if_pos h, if_pos h, Int32.add_zero]
  · rw [if_neg h, if_neg h, if_neg h, addNN]
theorem wv_0 (x w : Int32) : x + wv w 0 = x := by
  unfold wv
  by_cases h : w = -1
  · rw [if_pos h, Int32.add_zero]
  · rw [if_neg h, add0N]
theorem UI_mono {s : Nat → Int32} {B B' : Nat} (h : B ≤ B') (hU : UI s B) : UI s B' := by
  obtain ⟨⟨u, a1, a2, a3⟩, a4⟩ := hU
  exact ⟨⟨u, by omega, a2, a3⟩, a4⟩
theorem MR_mono {s : Nat → Int32} {pn : Int32} {row : Nat → Int32} {M : Nat → Nat → Int32} {sz us : Nat → Int32} {lu pu re : Int32} {B B' : Nat} (h : B ≤ B') (hM : MR s pn row M sz us lu pu re B) : MR s pn row M sz us lu pu re B' := ⟨hM.1, hM.2.1, hM.2.2.1, hM.2.2.2.1, UI_mono h hM.2.2.2.2⟩
theorem b2i_eq {a b : Bool} : (b2i a = b2i b) = (a = b) := by cases a <;> cases b <;> simp [b2i]
/-- how the counts go on -/
def CT (s t : Nat → Int32) (w : Int32) (n d : Nat) : Prop := (∀ b, b < 48 → t (6 * b) = s (6 * b)) ∧ t 379 = s 379 + nI (3 * d) ∧ t 380 = s 380 ∧ t 381 = s 381 + nI n ∧ t 382 = s 382 ∧ t 383 = s 383 + nI d ∧ t 384 = s 384 + wv w n ∧ t 385 = s 385 ∧ t 388 = s 388
theorem CT_refl (s : Nat → Int32) (w : Int32) : CT s s w 0 0 := ⟨fun _ _ => rfl, (add0N _).symm, rfl, (add0N _).symm, rfl, (add0N _).symm, (wv_0 _ _).symm, rfl, rfl⟩
theorem CT_trans {s t u : Nat → Int32} {w : Int32} {n d n' d' : Nat} (h : CT s t w n d) (g : CT t u w n' d') : CT s u w (n + n') (d + d') := by
  obtain ⟨h0, h1, h2, h3, h4, h5, h6, h7, h8⟩ := h
  obtain ⟨g0, g1, g2, g3, g4, g5, g6, g7, g8⟩ := g
  refine ⟨fun b hb => (g0 b hb).trans (h0 b hb), ?_, g2.trans h2, ?_, g4.trans h4, ?_, ?_, g7.trans h7, g8.trans h8⟩
  · rw [g1, h1, addNN, Nat.mul_add]
  · rw [g3, h3, addNN]
  · rw [g5, h5, addNN]
  · rw [g6, h6, wv_add]
/-- the collecting goes on -/
def COL (kd tg oc ln : Nat → Int32) (A : Nat → Int32) (e i n : Nat) (pn : Int32) (row : Nat → Int32) (M : Nat → Nat → Int32) (sz us : Nat → Int32) (lu pu re : Int32) (pn' : Int32) (row' : Nat → Int32) (M' : Nat → Nat → Int32) (sz' us' : Nat → Int32) (lu' pu' re' : Int32) : Prop :=
  ∀ x1 K c1 c2 c3 c4 c5 c6 c7 (q1 q2 : Nat → Int32) (q3 : Int32) (q4 : Nat → Int32) (q5 q6 q7 x3 x4 : Int32), m_X3_runFetches_61 kd tg oc ln x1 K n pn c1 c2 c3 c4 c5 c6 c7 row M sz us lu pu re q1 q2 q3 A q4 q5 q6 (nI e) q7 x3 x4 (nI i) = K pn' c1 c2 c3 c4 c5 c6 c7 row' M' sz' us' lu' pu' re' q1 q2 q3 A q4 q5 q6 (nI e) q7 x3 (x4 + 1)
theorem COL_end {kd tg oc ln A : Nat → Int32} {e n : Nat} (he : e ≤ 8) {pn : Int32} {row : Nat → Int32} {M : Nat → Nat → Int32} {sz us : Nat → Int32} {lu pu re : Int32} : COL kd tg oc ln A e e (n + 1) pn row M sz us lu pu re pn row M sz us lu pu re := by
  intro x1 K c1 c2 c3 c4 c5 c6 c7 q1 q2 q3 q4 q5 q6 q7 x3 x4
  rw [m_X3_runFetches_61, if_pos (leN_t (by omega) (by omega)), bdE]
theorem COL_s {kd tg oc ln A : Nat → Int32} {e i n a : Nat} (he : e ≤ 8) (hi : i < e) (hA : A i = nI a) {pn : Int32} {row : Nat → Int32} {M : Nat → Nat → Int32} {sz us : Nat → Int32} {lu pu re : Int32} {pn' : Int32} {row' : Nat → Int32} {M' : Nat → Nat → Int32} {sz' us' : Nat → Int32} {lu' pu' re' : Int32} {pn2 : Int32} {row2 : Nat → Int32} {M2 : Nat → Nat → Int32} {sz2 us2 : Nat → Int32} {lu2 pu2 re2 : Int32} (h : m_X3_collect kd pn row M sz us lu pu re (nI a) = some (pn2, row2, M2, sz2, us2, lu2, pu2, re2)) (hc : COL kd tg oc ln A e (i + 1) n pn2 row2 M2 sz2 us2 lu2 pu2 re2 pn' row' M' sz' us' lu' pu' re') : COL kd tg oc ln A e i (n + 1) pn row M sz us lu pu re pn' row' M' sz' us' lu' pu' re' := by
  intro x1 K c1 c2 c3 c4 c5 c6 c7 q1 q2 q3 q4 q5 q6 q7 x3 x4
  rw [m_X3_runFetches_61, if_neg (leN_f (by omega) (by omega)), inbN (by omega) (by omega), gd_s, clN (by omega), hA, h, bn_s, bdE, nI1]
  exact hc x1 K c1 c2 c3 c4 c5 c6 c7 q1 q2 q3 q4 q5 q6 q7 x3 x4
theorem fetch_loop {kd tg oc ln : Nat → Int32} {a : Nat → Nat} {m : Nat} (hm : m ≤ 8) {w : Int32} {A P A' P' : Nat → Int32} {pr : Nat → Bool} (hA : ∀ i, i < m → A i = nI (a i) ∧ P i = b2i (pr i) ∧ A' i = nI (a i) ∧ P' i = b2i (pr i) ∧ a i < 48 ∧ (kd (a i) ≠ 2 → pr i = false)) :
    ∀ k i n1 n2 n3 (s ct cn : Nat → Int32) (nx pn : Int32) (row : Nat → Int32) (M : Nat → Nat → Int32) (sz us : Nat → Int32) (lu pu re : Int32) (B mi : Nat), i + k = m → k < n1 → k < n2 → k < n3 → PR s kd tg oc ln ct cn nx → PI s → MR s pn row M sz us lu pu re B → B + k < 2147483648 →
    ∃ e d t ct' cn' nx' pn' row' M' sz' us' lu' pu' re', i ≤ e ∧ e ≤ m ∧ m_X7_fetches_80 n1 s A P (nI m) w (nI i) = some (nI e, upd t 382 (t 382 + (nI m - nI e)), A, P, nI m, w) ∧ m_X1_execute_12 kd tg oc ln A' P' (nI m) n2 ct cn nx (nI i) (nI mi) (nI i) = some (ct', cn', nx', nI e, nI (mi + d)) ∧ COL kd tg oc ln A' e i n3 pn row M sz us lu pu re pn' row' M' sz' us' lu' pu' re' ∧ PR t kd tg oc ln ct' cn' nx' ∧ PI t ∧ MR t pn' row' M' sz' us' lu' pu' re' (B + k) ∧ CT s t w (e - i) d := by
  have h127 : ∀ (t : Nat → Int32) (e : Nat), m_X7_fetches_127 t A P (nI m) w (nI e) = some (nI e, upd t 382 (t 382 + (nI m - nI e)), A, P, nI m, w) := by
    intro t e
    unfold m_X7_fetches_127
    rw [inb382, gd_s, gd_s, cl382, bdE]
  intro k
  induction k with
  | zero =>
    intro i n1 n2 n3 s ct cn nx pn row M sz us lu pu re B mi hik h1 h2 h3 hP hI hM hB
    obtain ⟨n1, rfl⟩ : ∃ z, n1 = z + 1 := ⟨n1 - 1, by omega⟩
    obtain ⟨n2, rfl⟩ : ∃ z, n2 = z + 1 := ⟨n2 - 1, by omega⟩
    obtain ⟨n3, rfl⟩ : ∃ z, n3 = z + 1 := ⟨n3 - 1, by omega⟩
    refine ⟨i, 0, s, ct, cn, nx, pn, row, M, sz, us, lu, pu, re, by omega, by omega, ?_, ?_, COL_end (by omega), hP, hI, hM, by rw [Nat.sub_self]; exact CT_refl s w⟩
    · rw [m_X7_fetches_80, if_pos (leN_t (by omega) (by omega)), h127]
    · rw [m_X1_execute_12, if_pos (leN_t (by omega) (by omega)), Nat.add_zero]
  | succ k ih =>
    intro i n1 n2 n3 s ct cn nx pn row M sz us lu pu re B mi hik h1 h2 h3 hP hI hM hB
    obtain ⟨n1, rfl⟩ : ∃ z, n1 = z + 1 := ⟨n1 - 1, by omega⟩
    obtain ⟨n2, rfl⟩ : ∃ z, n2 = z + 1 := ⟨n2 - 1, by omega⟩
    obtain ⟨n3, rfl⟩ : ∃ z, n3 = z + 1 := ⟨n3 - 1, by omega⟩
    obtain ⟨b1, b2, b3, b4, b5, b6⟩ := hA i (by omega)
    obtain ⟨x, hx, hx2⟩ := hI.2
    have hnx : nx = nI x := hP.2.trans hx2
    have er : m_X7_fetches_80 (n1 + 1) s A P (nI m) w (nI i) = if nI (a i) = s 288 then bn (m_X7_executes w s (nI (a i)) (b2i (pr i))) (fun y118 => m_X7_fetches_80 n1 y118 A P (nI m) w (nI (i + 1))) else m_X7_fetches_127 s A P (nI m) w (nI i) := by
      rw [m_X7_fetches_80, if_neg (leN_f (by omega) (by omega)), inbN (by omega) (by omega), gd_s, inb288, gd_s, clN (by omega), cl288, gd_s, gd_s, b1, b2]
      simp only [bdE, nI1]
    have ek : m_X1_execute_12 kd tg oc ln A' P' (nI m) (n2 + 1) ct cn nx (nI i) (nI mi) (nI i) = if nI (a i) = nx then bn (m_X4_step kd tg oc ln ct cn nx) (fun y34 => if y34.1 = b2i (pr i) then m_X1_execute_12 kd tg oc ln A' P' (nI m) n2 y34.2.1 y34.2.2.1 y34.2.2.2 (nI (i + 1)) (nI mi) (nI (i + 1)) else m_X1_execute_12 kd tg oc ln A' P' (nI m) n2 y34.2.1 y34.2.2.1 y34.2.2.2 (nI (i + 1)) (nI (mi + 1)) (nI (i + 1))) else some (ct, cn, nx, nI i, nI mi) := by
      rw [m_X1_execute_12, if_neg (leN_f (by omega) (by omega)), inbN (by omega) (by omega), gd_s, clN (by omega), b3, b4]
      unfold m_X1_execute_56
      simp only [bdE, gd_s, nI1]
    by_cases hc : a i = x
    · have hs : s 288 = nI (a i) := by rw [hx2, hc]
      have hq : s (6 * a i) ≠ 2 → pr i = false := fun h => b6 (by rw [(hP.1 _ b5).1]; exact h)
      obtain ⟨t, q, pn2, row2, M2, sz2, us2, lu2, pu2, re2, q1, q2, e1, e2, e3, e4, e5, e6, f1, f2, f3, f4, f5, f6, f7, f8⟩ := exec_sim hP hI hM (by omega) b5 (pr i) hq w
      have hct : CT s t w 1 (dm (tk s (a i)) (pr i)) := ⟨e6, f1, f2, f3, f4, f5, f6, f7, f8⟩
      obtain ⟨e, d, t', ct', cn', nx', pn', row', M', sz', us', lu', pu', re', g1, g2, g3, g4, g5, g6, g7, g8, g9⟩ := ih (i + 1) n1 n2 n3 t (nct s ct (a i)) (ncn s cn (a i)) (nI q) pn2 row2 M2 sz2 us2 lu2 pu2 re2 (B + 1) (mi + dm (tk s (a i)) (pr i)) (by omega) (by omega) (by omega) (by omega) e3 e4 e5 (by omega)
      refine ⟨e, dm (tk s (a i)) (pr i) + d, t', ct', cn', nx', pn', row', M', sz', us', lu', pu', re', by omega, g2, ?_, ?_, COL_s (by omega) (by omega) b3 e2 g5, g6, g7, by rw [show B + (k + 1) = B + 1 + k by omega]; exact g8, ?_⟩
      · rw [er, if_pos hs.symm, e1, bn_s]
        exact g3
      · rw [ek, if_pos (by rw [hnx, hc]), k_step hI hP b5 hs, bn_s, ← Nat.add_assoc, ← g4, q2]
        simp only [b2i_eq]
        unfold nct ncn dm
        by_cases hh : tk s (a i) = pr i
        · simp only [hh, if_true, Nat.add_zero]
        · simp only [hh, if_false]
      · have := CT_trans hct g9
        rw [show 1 + (e - (i + 1)) = e - i by omega] at this
        exact this
    · have n1' : ¬ nI (a i) = s 288 := by rw [hx2, eqN (by omega) (by omega)]; exact hc
      have n2' : ¬ nI (a i) = nx := by rw [hnx, eqN (by omega) (by omega)]; exact hc
      refine ⟨i, 0, s, ct, cn, nx, pn, row, M, sz, us, lu, pu, re, by omega, by omega, ?_, ?_, COL_end (by omega), hP, hI, MR_mono (by omega) hM, by rw [Nat.sub_self]; exact CT_refl s w⟩
      · rw [er, if_neg n1', h127]
      · rw [ek, if_neg n2', Nat.add_zero]
