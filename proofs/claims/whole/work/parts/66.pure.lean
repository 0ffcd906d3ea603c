-- ===== 66: choosing, whole =====
/-- a line that begins at an address -/
def hd (s : Nat → Int32) (p x : Nat) : Bool := decide (0 < zs s p) && decide (s (291 + 10 * p) = nI x)
theorem modN {a d : Nat} (ha : a < 2147483648) (h0 : 0 < d) (hd : d < 2147483648) : nI a - nI a / nI d * nI d = nI (a % d) := pk_rem ha h0 hd
theorem mod4N {a : Nat} (ha : a < 2147483648) : nI a - nI a / 4 * 4 = nI (a % 4) := modN (d := 4) ha (by omega) (by omega)
theorem mod2N {a : Nat} (ha : a < 2147483648) : nI a - nI a / 2 * 2 = nI (a % 2) := modN (d := 2) ha (by omega) (by omega)
theorem mul2N (a : Nat) : (2 : Int32) * nI a = nI (2 * a) := pk_mul 2 a
theorem lk_s {s : Nat → Int32} (hL : LI s) {x j n : Nat} {A P : Nat → Int32} {m w b : Int32} (hx : x < 48) (hj : j < 2) :
    m_X7_looks_18 s (n + 1) A P m w (nI x) b (nI j) = if hd s (2 * (x % 4) + j) x = true then m_X7_looks_65 s (m_X7_looks_18 s n) A P m w (nI x) b (nI j) (nI (2 * (x % 4) + j)) 1 else m_X7_looks_97 s (m_X7_looks_18 s n) A P m w (nI x) (nI j) b := by
  have hq : x % 4 < 4 := Nat.mod_lt _ (by decide)
  have hp : 2 * (x % 4) + j < 8 := by omega
  have h8 := hL _ hp
  have e0 : ¬ nI j < 0 := by
    show ¬ nI j < nI 0
    rw [ltN (by omega) (by omega)]
    omega
  have e3 : 289 + 10 * (2 * (x % 4) + j) + 2 = 291 + 10 * (2 * (x % 4) + j) := by omega
  rw [m_X7_looks_18, if_neg e0]
  simp only [bd]
  rw [mod4N (by omega), mul2N, nI_add, ofL_0, bn_s, inbN (by omega) (by omega), gd_s, clN (by omega), h8.2.1, ofL_2, bn_s, e3, inbN (by omega) (by omega), gd_s, clN (by omega)]
  have e4 : (nI (zs s (2 * (x % 4) + j)) ≤ 0) = (zs s (2 * (x % 4) + j) = 0) := leN0 (by omega)
  simp only [e4]
  unfold m_X7_looks_64
  have e5 : ∀ y, m_X7_looks_65 s (m_X7_looks_18 s n) A P m w (nI x) b (nI j) y 0 = m_X7_looks_97 s (m_X7_looks_18 s n) A P m w (nI x) (nI j) b := fun y => rfl
  simp only [e5]
  by_cases c1 : zs s (2 * (x % 4) + j) = 0
  · simp [hd, c1]
  · by_cases c2 : s (291 + 10 * (2 * (x % 4) + j)) = nI x
    · simp [hd, c1, c2, show 0 < zs s (2 * (x % 4) + j) by omega]
    · simp [hd, c1, c2]
theorem lk_97 {s : Nat → Int32} {x n : Nat} {A P : Nat → Int32} {m w j b : Int32} : m_X7_looks_97 s (m_X7_looks_18 s n) A P m w (nI x) j b = m_X7_looks_18 s n A P m w (nI x) b (j + -1) := rfl
theorem lk_new {s : Nat → Int32} {x n : Nat} {A P : Nat → Int32} {m w j y : Int32} : m_X7_looks_65 s (m_X7_looks_18 s n) A P m w (nI x) (-1) j y 1 = m_X7_looks_18 s n A P m w (nI x) y (j + -1) := rfl
theorem lk_cmp {s : Nat → Int32} (hL : LI s) {x n p b : Nat} {A P : Nat → Int32} {m w j : Int32} (hp : p < 8) (hb : b < 8) : m_X7_looks_65 s (m_X7_looks_18 s n) A P m w (nI x) (nI b) j (nI p) 1 = if ul s p < ul s b then m_X7_looks_18 s n A P m w (nI x) (nI b) (j + -1) else m_X7_looks_18 s n A P m w (nI x) (nI p) (j + -1) := by
  have u1 := (ul_le hL hp).1
  have u2 := (ul_le hL hb).1
  have z1 := (hL p hp).1
  have z2 := (hL b hb).1
  unfold m_X7_looks_65
  rw [if_neg (show ¬ (1 : Int32) = 0 by decide), if_neg (nIm1 (by omega)), r_usable hL hp, bn_s, r_usable hL hb, bn_s]
  have e : (nI (ul s p) < nI (ul s b)) = (ul s p < ul s b) := ltN (by omega) (by omega)
  simp only [e]
  rfl
theorem k_at {s : Nat → Int32} {M : Nat → Nat → Int32} {sz us : Nat → Int32} {lu pu re : Int32} (hC : CR s M sz us lu pu re) (hL : LI s) {p x : Nat} (hp : p < 8) (hx : x < 48) : ∃ y, m_X0_addressAt M sz (nI p) 0 = some y ∧ (y = nI x ↔ hd s p x = true) := by
  have h8 := hL p hp
  obtain ⟨c1, c2, -⟩ := hC.1 p hp
  have e4 : (nI (zs s p) ≤ 0) = (zs s p = 0) := leN0 (by omega)
  have e0 : Int32.toNatClampNeg 0 = 0 := clN (n := 0) (by omega)
  have i0 : inb 0 8 = true := inbN (n := 0) (by omega) (by omega)
  unfold m_X0_addressAt m_X0_addressAt_22
  rw [inbN hp (by omega), gd_s, clN (by omega), c1, h8.2.1, gd_s, i0, gd_s, e0]
  simp only [e4]
  by_cases z : zs s p = 0
  · refine ⟨-1, by rw [if_pos z], ?_⟩
    simp only [hd, z]
    constructor
    · intro h
      exact absurd h.symm (nIm1 (by omega))
    · intro h
      simp at h
  · refine ⟨_, by rw [if_neg z], ?_⟩
    rw [c2 0 (by omega)]
    simp [hd, show 0 < zs s p by omega]
theorem ch_s {s kd tg oc ln ct cn : Nat → Int32} {nx : Int32} {M : Nat → Nat → Int32} {sz us : Nat → Int32} {lu pu re : Int32} (hP : PR s kd tg oc ln ct cn nx) (hC : CR s M sz us lu pu re) (hL : LI s) {x p q n : Nat} {A P : Nat → Int32} {m w : Int32} (hx : x < 48) (hq : q < 4) (hp : p < 2 * q + 2) :
    m_X1_choose_25 M sz kd tg cn nx (n + 1) A P m w (nI x) (nI (2 * q)) (nI p) = if hd s p x = true then (if nI (ul s p) ≤ m then m_X1_choose_25 M sz kd tg cn nx n A P m w (nI x) (nI (2 * q)) (nI (p + 1)) else m_X1_choose_25 M sz kd tg cn nx n A P (nI (ul s p)) (nI p) (nI x) (nI (2 * q)) (nI (p + 1))) else m_X1_choose_25 M sz kd tg cn nx n A P m w (nI x) (nI (2 * q)) (nI (p + 1)) := by
  have e2 : nI (2 * q) + 2 = nI (2 * q + 2) := nI_add (2 * q) 2
  obtain ⟨y, hy, hy2⟩ := k_at hC hL (show p < 8 by omega) hx
  rw [m_X1_choose_25, e2, if_neg (leN_f (by omega) (by omega)), hy, bn_s]
  unfold m_X1_choose_75
  simp only [bd]
  rw [nI1]
  by_cases c : hd s p x = true
  · have hz : 0 < zs s p := by
      unfold hd at c
      simp at c
      exact c.1
    rw [if_pos (hy2.mpr c), if_pos c, k_usable hP hC hL (by omega) hz, bn_s]
  · rw [if_neg (fun h => c (hy2.mp h)), if_neg c]
theorem ul_pos {s : Nat → Int32} (hL : LI s) {p x : Nat} (hp : p < 8) (c : hd s p x = true) : 0 < ul s p := by
  unfold hd at c
  simp at c
  exact (ul_le hL hp).2 c.1
/-- the best line -/
def bp (s : Nat → Int32) (x : Nat) : Option Nat := if hd s (2 * (x % 4)) x = true then (if hd s (2 * (x % 4) + 1) x = true ∧ ul s (2 * (x % 4)) < ul s (2 * (x % 4) + 1) then some 1 else some 0) else if hd s (2 * (x % 4) + 1) x = true then some 1 else none
def bI (s : Nat → Int32) (x : Nat) : Int32 := match bp s x with
  | none => -1
  | some j => nI (2 * (x % 4) + j)
theorem lk_all {s : Nat → Int32} (hL : LI s) {x : Nat} (hx : x < 48) {n : Nat} {A P : Nat → Int32} {m w : Int32} : m_X7_looks_18 s (n + 1 + 1) A P m w (nI x) (-1) 1 = m_X7_looks_18 s n A P m w (nI x) (bI s x) (-1) := by
  have s1 := fun n b => lk_s (n := n) (A := A) (P := P) (m := m) (w := w) (b := b) hL hx (show 1 < 2 by omega)
  have s0 := fun n b => lk_s (n := n) (A := A) (P := P) (m := m) (w := w) (b := b) hL hx (show 0 < 2 by omega)
  have e1 : nI 1 + -1 = nI 0 := rfl
  have e0 : nI 0 + -1 = -1 := rfl
  have hq : x % 4 < 4 := Nat.mod_lt _ (by decide)
  have hs : m_X7_looks_18 s (n + 1 + 1) A P m w (nI x) (-1) 1 = m_X7_looks_18 s (n + 1 + 1) A P m w (nI x) (-1) (nI 1) := rfl
  rw [hs, s1]
  simp only [lk_new, lk_97, e1, s0, Nat.add_zero, e0]
  rw [lk_cmp hL (by omega) (by omega)]
  simp only [e0]
  unfold bI bp
  by_cases c0 : hd s (2 * (x % 4)) x = true
  · by_cases c1 : hd s (2 * (x % 4) + 1) x = true
    · by_cases c : ul s (2 * (x % 4)) < ul s (2 * (x % 4) + 1)
      · simp [c0, c1, c]
      · simp [c0, c1, c]
    · simp [c0, c1]
  · by_cases c1 : hd s (2 * (x % 4) + 1) x = true
    · simp [c0, c1]
    · simp [c0, c1]
theorem ch_all {s kd tg oc ln ct cn : Nat → Int32} {nx : Int32} {M : Nat → Nat → Int32} {sz us : Nat → Int32} {lu pu re : Int32} (hP : PR s kd tg oc ln ct cn nx) (hC : CR s M sz us lu pu re) (hL : LI s) {x n : Nat} {A P : Nat → Int32} (hx : x < 48) :
    m_X1_choose_25 M sz kd tg cn nx (n + 1 + 1) A P 0 (-1) (nI x) (nI (2 * (x % 4))) (nI (2 * (x % 4))) = m_X1_choose_25 M sz kd tg cn nx n A P (match bp s x with | none => 0 | some j => nI (ul s (2 * (x % 4) + j))) (bI s x) (nI x) (nI (2 * (x % 4))) (nI (2 * (x % 4) + 1 + 1)) := by
  have hq : x % 4 < 4 := Nat.mod_lt _ (by decide)
  have s0 := fun n m w => ch_s (n := n) (A := A) (P := P) (m := m) (w := w) hP hC hL hx hq (show 2 * (x % 4) < 2 * (x % 4) + 2 by omega)
  have s1 := fun n m w => ch_s (n := n) (A := A) (P := P) (m := m) (w := w) hP hC hL hx hq (show 2 * (x % 4) + 1 < 2 * (x % 4) + 2 by omega)
  have u0 := (ul_le hL (show 2 * (x % 4) < 8 by omega)).1
  have u1 := (ul_le hL (show 2 * (x % 4) + 1 < 8 by omega)).1
  have z0 := (hL _ (show 2 * (x % 4) < 8 by omega)).1
  have z1 := (hL _ (show 2 * (x % 4) + 1 < 8 by omega)).1
  rw [s0]
  simp only [s1]
  unfold bI bp
  by_cases c0 : hd s (2 * (x % 4)) x = true
  · have g0 := ul_pos hL (by omega) c0
    have n0 : ¬ nI (ul s (2 * (x % 4))) ≤ 0 := by rw [leN0 (by omega)]; omega
    by_cases c1 : hd s (2 * (x % 4) + 1) x = true
    · have n1 : (nI (ul s (2 * (x % 4) + 1)) ≤ nI (ul s (2 * (x % 4)))) = ¬ (ul s (2 * (x % 4)) < ul s (2 * (x % 4) + 1)) := by
        rw [leN (by omega) (by omega)]
        exact propext ⟨fun h => by omega, fun h => by omega⟩
      by_cases c : ul s (2 * (x % 4)) < ul s (2 * (x % 4) + 1)
      · simp [c0, c1, c, n0, n1]
      · simp [c0, c1, c, n0, n1]
    · simp [c0, c1, n0]
  · by_cases c1 : hd s (2 * (x % 4) + 1) x = true
    · have g1 := ul_pos hL (by omega) c1
      have n1 : ¬ nI (ul s (2 * (x % 4) + 1)) ≤ 0 := by rw [leN0 (by omega)]; omega
      simp [c0, c1, n1]
    · simp [c0, c1]
