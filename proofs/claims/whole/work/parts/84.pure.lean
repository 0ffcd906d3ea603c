-- ===== 84: patterns as the reference reads them =====
theorem r_bb {T : Nat → Int32} {n p i : Nat} (h : TX T n) (hp : p + i < 200000) : m_X7_isNext T (nI n) (nI (p + i)) 0 48 49 = some (b2i (bb T n p i)) := by
  have := r_next (lo := 48) (hi := 49) h (show p + i < 2147483648 by omega) (by omega) (by omega) (by omega) false
  rw [b2i_f, Bool.not_false, Bool.true_and] at this
  exact this
theorem r_pat35 {T : Nat → Int32} {n p i : Nat} (h : TX T n) (hp : p + i < 200000) (hb : bb T n p i = true) {x1 x2 : Int32} {K : (Nat → Int32) → (Int32) → (Int32) → (Int32) → (Int32) → Option ((Nat → Int32) × (Int32) × (Int32))} {s : Nat → Int32} {v : Int32} : m_X7_readPattern_35 T (nI n) x1 x2 K s (nI (p + i)) 0 v (nI i) = K s (nI (p + (i + 1))) 0 (v ||| (nI (chr T n (p + i) - 48) <<< (nI i &&& 31))) (nI (i + 1)) := by
  have ht := r_takes (lo := 48) (hi := 49) h (show p + i < 2147483647 by omega) (by omega) (by omega) (by omega) false
  have hb2 : (decide (48 ≤ chr T n (p + i)) && decide (chr T n (p + i) ≤ 49)) = true := hb
  rw [b2i_f, Bool.not_false, Bool.true_and, if_pos hb2] at ht
  have ht' : m_X7_takes T (nI n) (nI (p + i)) 0 48 49 = some (nI (chr T n (p + i) - 48), nI (p + i + 1), 0) := ht
  unfold m_X7_readPattern_35
  rw [ht', bn_s, bdE, bdE, nI1]
  rfl
theorem r_pat_loop {T : Nat → Int32} {n p : Nat} (h : TX T n) (hp : p < 100000) {x1 x2 : Int32} {s : Nat → Int32} : ∀ k i m (v : Int32), i + k = 8 → 1 ≤ i → k < m → m_X7_readPattern_5 T (nI n) x1 x2 m s (nI (p + i)) 0 v (nI i) = m_X7_readPattern_55 T (nI n) x1 x2 s (nI (p + wl (bb T n p) k i)) 0 (pac T n p v i k) (nI (wl (bb T n p) k i)) := by
  intro k
  induction k with
  | zero =>
    intro i m v h1 h0 h2
    obtain ⟨m, rfl⟩ : ∃ z, m = z + 1 := ⟨m - 1, by omega⟩
    have hi : ¬ nI i = 0 := by rw [eqN0 (by omega)]; omega
    rw [m_X7_readPattern_5, if_neg hi]
    unfold m_X7_readPattern_17
    rw [if_pos (show (8 : Int32) ≤ nI i from leN_t (a := 8) (by omega) (by omega)), wl, pac]
  | succ k ih =>
    intro i m v h1 h0 h2
    obtain ⟨m, rfl⟩ : ∃ z, m = z + 1 := ⟨m - 1, by omega⟩
    have hi : ¬ nI i = 0 := by rw [eqN0 (by omega)]; omega
    rw [m_X7_readPattern_5, if_neg hi]
    unfold m_X7_readPattern_17
    rw [if_neg (show ¬ (8 : Int32) ≤ nI i from leN_f (a := 8) (by omega) (by omega)), r_bb h (by omega), bn_s]
    by_cases hb : bb T n p i = true
    · rw [hb, if_neg (show ¬ b2i true = 0 by decide), r_pat35 h (by omega) hb, ih (i + 1) m _ (by omega) (by omega) (by omega), wl, if_pos hb, pac, if_pos hb]
    · have hb2 : bb T n p i = false := by cases e : bb T n p i <;> simp_all
      rw [hb2, if_pos (show b2i false = 0 from rfl), wl, if_neg hb, pac, if_neg hb]
