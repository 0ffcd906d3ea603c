-- ===== 85: a pattern in a text =====
def pln (T : Nat → Int32) (n p : Nat) : Nat := wl (bb T n p) 8 0
theorem pln_le (T : Nat → Int32) (n p : Nat) : pln T n p ≤ 8 := by
  have := (wl_le (bb T n p) 8 0).2
  unfold pln
  omega
theorem k_pat {X T : Nat → Int32} {n p : Nat} (h : TX T n) (hX : ∀ i, i < n → X i = T i) (hp : p < 100000) (v0 o0 : Int32) : m_X5_readPattern X (nI n) (nI p) v0 o0 = some (if pln T n p = 0 then 0 else 1, nI (p + pln T n p), pac T n p 0 0 8, nI (pln T n p)) := by
  have h1 := k_pat_loop h hX hp 8 0 4000 0 (by omega) (by omega)
  rw [Nat.add_zero] at h1
  have hl := pln_le T n p
  have e : (nI (pln T n p) ≤ 0) = (pln T n p = 0) := leN0 (by omega)
  unfold m_X5_readPattern
  refine Eq.trans h1 ?_
  show m_X5_readPattern_76 X (nI n) (nI (p + pln T n p)) (pac T n p 0 0 8) (nI (pln T n p)) = _
  unfold m_X5_readPattern_76 m_X5_readPattern_88
  rw [isb_0, isb_1, gd_s, gd_s]
  simp only [e]
  by_cases c : pln T n p = 0
  · rw [if_pos c, if_pos c]
  · rw [if_neg c, if_neg c]
