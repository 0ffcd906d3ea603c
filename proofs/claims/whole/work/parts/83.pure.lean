-- ===== 83: patterns in a text =====
def bb (T : Nat → Int32) (n p : Nat) : Nat → Bool := fun i => decide (48 ≤ chr T n (p + i)) && decide (chr T n (p + i) ≤ 49)
/-- the pattern's bits -/
def pac (T : Nat → Int32) (n p : Nat) : Int32 → Nat → Nat → Int32
  | v, _, 0 => v
  | v, i, k + 1 => if bb T n p i = true then pac T n p (v ||| (nI (chr T n (p + i) - 48) <<< (nI i &&& 31))) (i + 1) k else v
theorem k_pat_loop {X T : Nat → Int32} {n p : Nat} (h : TX T n) (hX : ∀ i, i < n → X i = T i) (hp : p < 100000) : ∀ k i m (v : Int32), i + k = 8 → k < m → m_X5_readPattern_12 X (nI n) m (nI (p + i)) v (nI i) (nI i) = m_X5_readPattern_76 X (nI n) (nI (p + wl (bb T n p) k i)) (pac T n p v i k) (nI (wl (bb T n p) k i)) := by
  intro k
  induction k with
  | zero =>
    intro i m v h1 h2
    obtain ⟨m, rfl⟩ : ∃ z, m = z + 1 := ⟨m - 1, by omega⟩
    rw [m_X5_readPattern_12, if_pos (show (8 : Int32) ≤ nI i from leN_t (a := 8) (by omega) (by omega)), wl, pac]
  | succ k ih =>
    intro i m v h1 h2
    obtain ⟨m, rfl⟩ : ∃ z, m = z + 1 := ⟨m - 1, by omega⟩
    have hk : ∀ y : Int32, m_X5_readPattern_38 X (nI n) (m_X5_readPattern_12 X (nI n) m) (nI (p + i)) v (nI i) (nI i) y = m_X5_readPattern_12 X (nI n) m (nI (p + (i + 1))) (v ||| ((y - 48) <<< (nI i &&& 31))) (nI (i + 1)) (nI (i + 1)) := by
      intro y
      unfold m_X5_readPattern_38
      rw [bdE, bdE, bdE, bdE, nI1, nI1]
      rfl
    rw [m_X5_readPattern_12, if_neg (show ¬ (8 : Int32) ≤ nI i from leN_f (a := 8) (by omega) (by omega)), k_here h hX (by omega), bn_s, hk]
    by_cases c : p + i < n
    · obtain ⟨c1, c2, c3⟩ := chr_in h c
      rw [if_pos c]
      have e1 : (nI (chr T n (p + i)) = 48) = (chr T n (p + i) = 48) := eqN (b := 48) (by omega) (by omega)
      have e2 : (nI (chr T n (p + i)) = 49) = (chr T n (p + i) = 49) := eqN (b := 49) (by omega) (by omega)
      simp only [e1, e2]
      by_cases d : chr T n (p + i) = 48 ∨ chr T n (p + i) = 49
      · have hb : bb T n p i = true := by
          unfold bb
          rcases d with d | d <;> simp [d]
        have e3 : nI (chr T n (p + i)) - 48 = nI (chr T n (p + i) - 48) := by rw [show (48 : Int32) = nI 48 from rfl, pk_sub (by omega)]
        rw [e3, ih (i + 1) m _ (by omega) (by omega), wl, if_pos hb, pac, if_pos hb]
        rcases d with d | d <;> simp [d]
      · have hb : bb T n p i = false := by
          unfold bb
          simp only [Bool.and_eq_false_iff, decide_eq_false_iff_not]
          omega
        rw [if_neg (fun g => d (Or.inl g)), if_neg (fun g => d (Or.inr g)), wl, if_neg (by rw [hb]; decide), pac, if_neg (by rw [hb]; decide)]
    · have hb : bb T n p i = false := by
        unfold bb
        rw [chr_out c]
        rfl
      rw [if_neg c, if_neg (fun g => nIm1 (a := 48) (by omega) g.symm), if_neg (fun g => nIm1 (a := 49) (by omega) g.symm), wl, if_neg (by rw [hb]; decide), pac, if_neg (by rw [hb]; decide)]
