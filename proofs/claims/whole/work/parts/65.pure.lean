-- ===== 65: choosing a fetch =====
def cont (s : Nat → Int32) (a : Nat) : Bool := decide (s (6 * a) ≠ 1) && !(pT s a)
def ma (x i : Nat) : Nat := (x + i) % 48
def FA (s A P : Nat → Int32) (a : Nat → Nat) (m : Nat) : Prop := ∀ i, i < m → A i = nI (a i) ∧ P i = b2i (pT s (a i))
theorem ma_lt (x i : Nat) : ma x i < 48 := Nat.mod_lt _ (by decide)
theorem ma_s (x i : Nat) : (ma x i + 1) % 48 = ma x (i + 1) := by unfold ma; omega
theorem fuel2 : ∃ n : Nat, (4000 : Nat) = n + 100 := ⟨3900, rfl⟩
theorem FA_upd {s A P : Nat → Int32} {a : Nat → Nat} {i x : Nat} (h : FA s A P a i) (hx : x = a i) : FA s (upd A i (nI x)) (upd P i (b2i (pT s x))) a (i + 1) := by
  subst hx
  intro j hj
  by_cases e : j = i
  · subst e
    rw [upd_s, upd_s]
    exact ⟨rfl, rfl⟩
  · rw [upd_n e, upd_n e]
    exact h j (by omega)
theorem r_one {s A P : Nat → Int32} {i a : Nat} (hi : i < 8) (ha : a < 48) : m_X7_fetchesOne s A P (nI i) (nI a) = some (upd A i (nI a), upd P i (b2i (pT s a)), nI (i + 1)) := by
  unfold m_X7_fetchesOne m_X7_fetchesOne_31
  simp (disch := omega) only [inbN, gd_s, clN, bd, r_predT ha, bn_s, nI1, b2i_0]
  cases pT s a <;> rfl
theorem r_stop {s A P : Nat → Int32} {m w : Int32} {a n : Nat} (ha : a < 48) : m_X7_looks_213 s (m_X7_looks_169 s (n + 1)) A P m w (nI a) = some (A, P, m, w) := by
  unfold m_X7_looks_213 m_X7_looks_214
  rw [afterN ha, bn_s, m_X7_looks_169, if_pos rfl]
theorem r_mem {s : Nat → Int32} {x : Nat} {w : Int32} : ∀ k i n A P, i + k = 3 → k + 1 < n → FA s A P (ma x) i → ∃ A' P', m_X7_looks_169 s n A P (nI i) w (nI (ma x i)) 1 = some (A', P', nI (wl (fun i => cont s (ma x i)) k i + 1), w) ∧ FA s A' P' (ma x) (wl (fun i => cont s (ma x i)) k i + 1) := by
  intro k
  induction k with
  | zero =>
    intro i n A P h1 h2 hF
    obtain ⟨n, rfl⟩ : ∃ z, n = z + 1 + 1 := ⟨n - 2, by omega⟩
    refine ⟨_, _, ?_, FA_upd hF rfl⟩
    rw [m_X7_looks_169, if_neg (by decide), r_one (by omega) (ma_lt x i), bn_s, if_pos (show (4 : Int32) ≤ nI (i + 1) from leN_t (a := 4) (by omega) (by omega)), r_stop (ma_lt x i)]
    rfl
  | succ k ih =>
    intro i n A P h1 h2 hF
    obtain ⟨n, rfl⟩ : ∃ z, n = z + 1 + 1 := ⟨n - 2, by omega⟩
    have hl := ma_lt x i
    have hF2 := FA_upd (x := ma x i) hF rfl
    have e4 : ¬ (4 : Int32) ≤ nI (i + 1) := leN_f (a := 4) (by omega) (by omega)
    by_cases c1 : s (6 * ma x i) = 1
    · have hc : cont s (ma x i) = false := by simp [cont, c1]
      refine ⟨upd A i (nI (ma x i)), upd P i (b2i (pT s (ma x i))), ?_, ?_⟩
      rotate_left
      · rw [wl, if_neg (by rw [hc]; decide)]
        exact hF2
      · rw [m_X7_looks_169, if_neg (by decide), r_one (by omega) hl, bn_s, if_neg e4, of_0, bn_s, inbN (by omega) (by omega), gd_s, clN (by omega), if_pos c1, r_stop hl, wl, if_neg (by rw [hc]; decide)]
    · by_cases c2 : pT s (ma x i) = true
      · have hc : cont s (ma x i) = false := by simp [cont, c2]
        refine ⟨upd A i (nI (ma x i)), upd P i (b2i (pT s (ma x i))), ?_, ?_⟩
        rotate_left
        · rw [wl, if_neg (by rw [hc]; decide)]
          exact hF2
        · rw [m_X7_looks_169, if_neg (by decide), r_one (by omega) hl, bn_s, if_neg e4, of_0, bn_s, inbN (by omega) (by omega), gd_s, clN (by omega), if_neg c1, r_predT hl, bn_s, if_neg (by rw [c2]; decide), r_stop hl, wl, if_neg (by rw [hc]; decide)]
      · have c3 : pT s (ma x i) = false := by cases h : pT s (ma x i) <;> simp_all
        have hc : cont s (ma x i) = true := by simp [cont, c1, c3]
        obtain ⟨A', P', a1, a2⟩ := ih (i + 1) (n + 1) _ _ (by omega) (by omega) hF2
        refine ⟨A', P', ?_, ?_⟩
        rotate_left
        · rw [wl, if_pos hc]
          exact a2
        · rw [m_X7_looks_169, if_neg (by decide), r_one (by omega) hl, bn_s, if_neg e4, of_0, bn_s, inbN (by omega) (by omega), gd_s, clN (by omega), if_neg c1, r_predT hl, bn_s, if_pos (by rw [c3]; rfl), wl, if_pos hc]
          unfold m_X7_looks_214
          rw [afterN hl, bn_s, ma_s]
          exact a1
theorem k_mem {s kd tg oc ln ct cn : Nat → Int32} {nx : Int32} (hP : PR s kd tg oc ln ct cn nx) {x : Nat} : ∀ k i n A sz, i + k = 3 → k + 1 < n → (∀ j, j < i → A j = nI (ma x j)) → ∃ A', m_X1_fillFromMemory_10 kd cn nx n A sz (nI (ma x i)) 0 (nI i) = some (A', nI (wl (fun i => cont s (ma x i)) k i + 1)) ∧ ∀ j, j < wl (fun i => cont s (ma x i)) k i + 1 → A' j = nI (ma x j) := by
  intro k
  have hup : ∀ (i : Nat) (A : Nat → Int32), (∀ j, j < i → A j = nI (ma x j)) → ∀ j, j < i + 1 → upd A i (nI (ma x i)) j = nI (ma x j) := by
    intro i A h j hj
    by_cases e : j = i
    · subst e
      rw [upd_s]
    · rw [upd_n e]
      exact h j (by omega)
  have hend : ∀ (i n : Nat) (A : Nat → Int32) (z y : Int32), i ≤ 4 → m_X1_fillFromMemory_10 kd cn nx (n + 1) A z y 1 (nI i) = some (A, z) := by
    intro i n A z y hi
    rw [m_X1_fillFromMemory_10]
    by_cases h : (4 : Int32) ≤ nI i
    · rw [if_pos h]
    · rw [if_neg h, if_neg (by decide)]
  induction k with
  | zero =>
    intro i n A sz h1 h2 hF
    obtain ⟨n, rfl⟩ : ∃ z, n = z + 1 + 1 := ⟨n - 2, by omega⟩
    have hl := ma_lt x i
    obtain ⟨e1, -⟩ := hP.1 (ma x i) hl
    have e5 : ∀ (A : Nat → Int32) (z y b : Int32), m_X1_fillFromMemory_10 kd cn nx (n + 1) A z y b (nI (i + 1)) = some (A, z) := by
      intro A z y b
      rw [m_X1_fillFromMemory_10, if_pos (show (4 : Int32) ≤ nI (i + 1) from leN_t (a := 4) (by omega) (by omega))]
    refine ⟨_, ?_, hup i A hF⟩
    rw [m_X1_fillFromMemory_10, if_neg (show ¬ (4 : Int32) ≤ nI i from leN_f (a := 4) (by omega) (by omega)), if_pos rfl, inbN (by omega) (by omega), gd_s, clN (by omega)]
    unfold m_X1_fillFromMemory_54 m_X1_fillFromMemory_59
    simp only [bd, nI1, inbN (show ma x i < 48 from hl) (by omega), gd_s, clN (show ma x i < 2147483648 by omega), e1, k_predT hP hl, bn_s, e5]
    simp [wl]
  | succ k ih =>
    intro i n A sz h1 h2 hF
    obtain ⟨n, rfl⟩ : ∃ z, n = z + 1 + 1 := ⟨n - 2, by omega⟩
    have hl := ma_lt x i
    obtain ⟨e1, -⟩ := hP.1 (ma x i) hl
    have hF2 := hup i A hF
    have e6 : (nI (ma x i) + 1) - (nI (ma x i) + 1) / 48 * 48 = nI (ma x (i + 1)) := by rw [rem48 hl, ma_s]
    obtain ⟨A', a1, a2⟩ := ih (i + 1) (n + 1) (upd A i (nI (ma x i))) (nI (i + 1)) (by omega) (by omega) hF2
    have e7 := hend (i + 1) n (upd A i (nI (ma x i))) (nI (i + 1)) (nI (ma x (i + 1))) (by omega)
    have main : m_X1_fillFromMemory_10 kd cn nx (n + 1 + 1) A sz (nI (ma x i)) 0 (nI i) = if cont s (ma x i) = true then m_X1_fillFromMemory_10 kd cn nx (n + 1) (upd A i (nI (ma x i))) (nI (i + 1)) (nI (ma x (i + 1))) 0 (nI (i + 1)) else some (upd A i (nI (ma x i)), nI (i + 1)) := by
      rw [m_X1_fillFromMemory_10, if_neg (show ¬ (4 : Int32) ≤ nI i from leN_f (a := 4) (by omega) (by omega)), if_pos rfl, inbN (by omega) (by omega), gd_s, clN (by omega)]
      unfold m_X1_fillFromMemory_54 m_X1_fillFromMemory_59
      simp only [bd, e6]
      simp only [nI1, inbN (show ma x i < 48 from hl) (by omega), gd_s, clN (show ma x i < 2147483648 by omega), e1, k_predT hP hl, bn_s, e7, b2i_0]
      by_cases c1 : s (6 * ma x i) = 1
      · simp [c1, cont]
      · cases c2 : pT s (ma x i)
        · simp [c1, c2, cont]
        · simp [c1, c2, cont]
    rw [main]
    by_cases hc : cont s (ma x i) = true
    · refine ⟨A', ?_, ?_⟩
      · rw [if_pos hc, a1, wl, if_pos hc]
      · rw [wl, if_pos hc]
        exact a2
    · refine ⟨upd A i (nI (ma x i)), ?_, ?_⟩
      rotate_left
      · rw [wl, if_neg hc]
        exact hF2
      · rw [if_neg hc, wl, if_neg hc]
theorem r_line {s : Nat → Int32} (hL : LI s) {p : Nat} (hp : p < 8) {w : Int32} : ∀ k i n A P, i + k = ul s p → k < n → FA s A P (za s p) i → ∃ A' P', m_X7_looks_134 s n A P (nI i) w (nI p) (nI (ul s p)) (nI i) = some (A', P', nI (ul s p), w) ∧ FA s A' P' (za s p) (ul s p) := by
  have h8 := hL p hp
  have hu := (ul_le hL hp).1
  intro k
  induction k with
  | zero =>
    intro i n A P h1 h2 hF
    obtain ⟨n, rfl⟩ : ∃ z, n = z + 1 := ⟨n - 1, by omega⟩
    have e : i = ul s p := by omega
    refine ⟨A, P, ?_, by rw [← e]; exact hF⟩
    rw [m_X7_looks_134, if_pos (leN_t (by omega) (by omega)), e]
  | succ k ih =>
    intro i n A P h1 h2 hF
    obtain ⟨n, rfl⟩ : ∃ z, n = z + 1 := ⟨n - 1, by omega⟩
    have hz := h8.2.2 i (by omega)
    have e2 : 289 + 10 * p + (2 + i) = 291 + 10 * p + i := by omega
    obtain ⟨A', P', a1, a2⟩ := ih (i + 1) n _ _ (by omega) (by omega) (FA_upd hF rfl)
    refine ⟨A', P', ?_, a2⟩
    rw [m_X7_looks_134, if_neg (leN_f (by omega) (by omega)), add2N, ofL, bn_s, e2, inbN (by omega) (by omega), gd_s, clN (by omega), hz.2, r_one (by omega) hz.1, bn_s, nI1]
    exact a1
theorem nar_b (b : Bool) : vp_nar .boolean (b2i b) = b2i b := by cases b <;> rfl
theorem k_pred_loop {s kd tg oc ln ct cn : Nat → Int32} {nx : Int32} {M : Nat → Nat → Int32} {sz : Nat → Int32} (hP : PR s kd tg oc ln ct cn nx) {A : Nat → Int32} {a : Nat → Nat} {m : Nat} (hm : m ≤ 8) (hA : ∀ j, j < m → A j = nI (a j) ∧ a j < 48) {pl0 : Int32} : ∀ k i n P, i + k = m → k < n → FA s A P a i → ∃ P', m_X1_choose_122 M sz kd tg cn nx n A P (nI m) pl0 (nI i) = some (A, P', nI m, pl0) ∧ FA s A P' a m := by
  intro k
  induction k with
  | zero =>
    intro i n P h1 h2 hF
    obtain ⟨n, rfl⟩ : ∃ z, n = z + 1 := ⟨n - 1, by omega⟩
    have e : i = m := by omega
    refine ⟨P, ?_, by rw [← e]; exact hF⟩
    rw [m_X1_choose_122, if_pos (leN_t (by omega) (by omega))]
  | succ k ih =>
    intro i n P h1 h2 hF
    obtain ⟨n, rfl⟩ : ∃ z, n = z + 1 := ⟨n - 1, by omega⟩
    obtain ⟨b1, b2⟩ := hA i (by omega)
    have hF2 : FA s A (upd P i (b2i (pT s (a i)))) a (i + 1) := by
      intro j hj
      by_cases e : j = i
      · subst e
        rw [upd_s]
        exact ⟨b1, rfl⟩
      · rw [upd_n e]
        exact hF j (by omega)
    obtain ⟨P', a1, a2⟩ := ih (i + 1) n _ (by omega) (by omega) hF2
    refine ⟨P', ?_, a2⟩
    rw [m_X1_choose_122, if_neg (leN_f (by omega) (by omega)), inbN (by omega) (by omega), gd_s, clN (by omega), b1, k_predT hP b2, bn_s, gd_s, nar_b]
    simp only [bd]
    rw [nI1]
    exact a1
