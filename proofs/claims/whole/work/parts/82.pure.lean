-- ===== 82: numbers as the class reads them =====
def dg (T : Nat → Int32) (n p : Nat) : Int32 := if 48 ≤ chr T n p ∧ chr T n p ≤ 57 then nI (chr T n p - 48) else -1
theorem m1_48 : (-1 : Int32) < 48 := by
  rw [i32_lt, show (-1 : Int32).toInt = -1 from rfl, show (48 : Int32).toInt = 48 from rfl]
  omega
theorem m1_le {a : Nat} (h : a < 2147483648) : ¬ nI a ≤ -1 := by
  rw [i32_le, nI_toInt h, show (-1 : Int32).toInt = -1 from rfl]
  omega
theorem k_digit {X T : Nat → Int32} {n p : Nat} (h : TX T n) (hX : ∀ i, i < n → X i = T i) (hp : p < 2147483648) : m_X5_digitHere X (nI n) (nI p) = some (dg T n p) := by
  unfold m_X5_digitHere m_X5_digitHere_24 m_X5_digitHere_25 dg
  rw [k_here h hX hp, bn_s]
  by_cases c : p < n
  · obtain ⟨c1, c2, c3⟩ := chr_in h c
    have e1 : (nI (chr T n p) < 48) = (chr T n p < 48) := ltN (b := 48) (by omega) (by omega)
    have e2 : ((57 : Int32) < nI (chr T n p)) = (57 < chr T n p) := ltN (a := 57) (by omega) (by omega)
    rw [if_pos c]
    simp only [e1, e2]
    by_cases d1 : chr T n p < 48
    · rw [if_pos d1, if_neg (by omega)]
    · by_cases d2 : 57 < chr T n p
      · rw [if_neg d1, if_pos d2, if_neg (by omega)]
      · rw [if_neg d1, if_neg d2, if_pos (by omega), show (48 : Int32) = nI 48 from rfl, pk_sub (by omega)]
  · rw [if_neg c, if_pos m1_48, chr_out c, if_neg (by omega)]
theorem k_num {X T : Nat → Int32} {n p lo hi : Nat} (h : TX T n) (hX : ∀ i, i < n → X i = T i) (hp : p < 100000) (hlo : lo ≤ 1) (hi2 : hi ≤ 99) (v0 : Int32) : m_X5_readNumber X (nI n) (nI p) v0 (nI lo) (nI hi) = some (match num T n p lo hi with | some (v, q) => (1, nI q, nI v) | none => (0, nI p, v0)) := by
  unfold m_X5_readNumber m_X5_readNumber_75 num
  rw [k_digit h hX (by omega), bn_s, bdE, nI1, k_digit h hX (by omega), bn_s]
  simp only [bdE, nI1]
  by_cases c : 48 + lo ≤ chr T n p ∧ chr T n p ≤ 57
  · have e1 : dg T n p = nI (chr T n p - 48) := by unfold dg; rw [if_pos (by omega)]
    rw [e1, if_pos (leN_t (by omega) (by omega)), if_pos c]
    have e2 : (nI (chr T n p - 48) ≤ 0) = (chr T n p - 48 = 0) := leN0 (by omega)
    simp only [e2]
    by_cases d : 48 ≤ chr T n (p + 1) ∧ chr T n (p + 1) ≤ 57
    · have e3 : dg T n (p + 1) = nI (chr T n (p + 1) - 48) := by unfold dg; rw [if_pos d]
      have e4 : nI (chr T n p - 48) * 10 + nI (chr T n (p + 1) - 48) = nI (10 * (chr T n p - 48) + (chr T n (p + 1) - 48)) := by
        rw [show nI (chr T n p - 48) * 10 = nI ((chr T n p - 48) * 10) from pk_mul _ 10, nI_add, Nat.mul_comm]
      have e5 : (nI hi < nI (10 * (chr T n p - 48) + (chr T n (p + 1) - 48))) = (hi < 10 * (chr T n p - 48) + (chr T n (p + 1) - 48)) := ltN (by omega) (by omega)
      rw [e3, e4]
      simp only [e5]
      by_cases d0 : chr T n p - 48 = 0
      · rw [if_pos d0, if_neg (by omega)]
      · rw [if_neg d0, if_neg (nIm1 (by omega))]
        by_cases d5 : hi < 10 * (chr T n p - 48) + (chr T n (p + 1) - 48)
        · rw [if_pos d5, if_neg (by omega)]
        · rw [if_neg d5, if_pos ⟨by omega, d.1, d.2, by omega⟩]
    · have e3 : dg T n (p + 1) = -1 := by unfold dg; rw [if_neg d]
      have dd : ¬ (0 < chr T n p - 48 ∧ 48 ≤ chr T n (p + 1) ∧ chr T n (p + 1) ≤ 57 ∧ 10 * (chr T n p - 48) + (chr T n (p + 1) - 48) ≤ hi) := fun g => d ⟨g.2.1, g.2.2.1⟩
      rw [e3, if_neg dd]
      by_cases d0 : chr T n p - 48 = 0
      · rw [if_pos d0]
      · rw [if_neg d0, if_pos rfl]
  · rw [if_neg c]
    have e : ¬ nI lo ≤ dg T n p := by
      unfold dg
      by_cases d : 48 ≤ chr T n p ∧ chr T n p ≤ 57
      · rw [if_pos d]
        exact leN_f (by omega) (by omega)
      · rw [if_neg d]
        exact m1_le (by omega)
    rw [if_neg e]
