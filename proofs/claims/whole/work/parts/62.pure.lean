-- ===== 62: the pending line and its storing =====
def zp (s : Nat → Int32) : Nat := Int32.toNatClampNeg (s 369)
def zq (s : Nat → Int32) (i : Nat) : Nat := Int32.toNatClampNeg (s (370 + i))
def QI (s : Nat → Int32) (b : Nat) : Prop := zp s ≤ b ∧ s 369 = nI (zp s) ∧ ∀ i, i < zp s → zq s i < 48 ∧ s (370 + i) = nI (zq s i)
def QR (s : Nat → Int32) (pn : Int32) (row : Nat → Int32) : Prop := pn = s 369 ∧ ∀ i, i < zp s → row i = s (370 + i)
/-- use numbers: not above the last, and all different -/
def UI (s : Nat → Int32) (B : Nat) : Prop := (∃ u, u ≤ B ∧ s 378 = nI u ∧ ∀ p, p < 8 → 0 < zs s p → ∃ v, v ≤ u ∧ s (290 + 10 * p) = nI v) ∧ ∀ p q, p < 8 → q < 8 → p ≠ q → 0 < zs s p → 0 < zs s q → s (290 + 10 * p) ≠ s (290 + 10 * q)
theorem zs_congr {s t : Nat → Int32} {p : Nat} (h : t (289 + 10 * p) = s (289 + 10 * p)) : zs t p = zs s p := by unfold zs; rw [h]
theorem LI_congr {s t : Nat → Int32} (h : ∀ j, 289 ≤ j → j < 369 → t j = s j) (hL : LI s) : LI t := by
  intro p hp
  have e := zs_congr (h (289 + 10 * p) (by omega) (by omega))
  obtain ⟨h1, h2, h3⟩ := hL p hp
  rw [e]
  refine ⟨h1, by rw [h _ (by omega) (by omega)]; exact h2, fun i hi => ?_⟩
  unfold za
  rw [h (291 + 10 * p + i) (by omega) (by omega)]
  exact h3 i hi
theorem CR_congr {s t : Nat → Int32} {M : Nat → Nat → Int32} {sz us : Nat → Int32} {lu pu re : Int32} (hL : LI s) (h : ∀ j, 289 ≤ j → j < 369 → t j = s j) (h1 : t 378 = s 378) (h2 : t 386 = s 386) (h3 : t 387 = s 387) (hC : CR s M sz us lu pu re) : CR t M sz us lu pu re := by
  refine ⟨fun p hp => ?_, by rw [h1]; exact hC.2.1, by rw [h2]; exact hC.2.2.1, by rw [h3]; exact hC.2.2.2⟩
  have e := zs_congr (h (289 + 10 * p) (by omega) (by omega))
  have h8 := (hL p hp).1
  obtain ⟨c1, c2, c3⟩ := hC.1 p hp
  rw [e]
  refine ⟨by rw [h _ (by omega) (by omega)]; exact c1, fun i hi => by rw [h _ (by omega) (by omega)]; exact c2 i hi, fun h0 => by rw [h _ (by omega) (by omega)]; exact c3 h0⟩
theorem UI_congr {s t : Nat → Int32} {B : Nat} (h : ∀ j, 289 ≤ j → j < 369 → t j = s j) (h1 : t 378 = s 378) (hU : UI s B) : UI t B := by
  have e : ∀ p, p < 8 → zs t p = zs s p := fun p hp => zs_congr (h (289 + 10 * p) (by omega) (by omega))
  have e2 : ∀ p, p < 8 → t (290 + 10 * p) = s (290 + 10 * p) := fun p hp => h _ (by omega) (by omega)
  obtain ⟨⟨u, a1, a2, a3⟩, a4⟩ := hU
  refine ⟨⟨u, a1, by rw [h1]; exact a2, fun p hp h0 => ?_⟩, fun p q hp hq hn h0 h0' => ?_⟩
  · rw [e2 p hp]
    exact a3 p hp (by rw [← e p hp]; exact h0)
  · rw [e2 p hp, e2 q hq]
    exact a4 p q hp hq hn (by rw [← e p hp]; exact h0) (by rw [← e q hq]; exact h0')
-- the same line
def sg (s : Nat → Int32) (p : Nat) : Nat → Bool := fun i => decide (s (291 + 10 * p + i) = s (370 + i))
def sm (s : Nat → Int32) (p : Nat) : Bool := decide (zs s p = zp s) && al (sg s p) (zp s) 0
theorem r_same_loop {s : Nat → Int32} (hQ : QI s 8) {p : Nat} (hp : p < 8) : ∀ k i n b, i + k = zp s → k < n → m_X7_isPending_29 s (nI p) n (b2i b) (nI i) = some (b2i (b && al (sg s p) k i)) := by
  have h8 := hQ.1
  intro k
  induction k with
  | zero =>
    intro i n b h1 h3
    obtain ⟨n, rfl⟩ : ∃ z, n = z + 1 := ⟨n - 1, by omega⟩
    rw [m_X7_isPending_29]
    unfold m_X7_isPending_82
    rw [inb369, cl369, hQ.2.1]
    simp (disch := omega) only [gd_s, leN, isb_b]
    simp [show zp s ≤ i by omega, al]
  | succ k ih =>
    intro i n b h1 h3
    obtain ⟨n, rfl⟩ : ∃ z, n = z + 1 := ⟨n - 1, by omega⟩
    have t1 := ih (i + 1) n true (by omega) (by omega)
    have f1 := ih (i + 1) n false (by omega) (by omega)
    rw [b2i_t] at t1
    rw [b2i_f] at f1
    rw [m_X7_isPending_29]
    unfold m_X7_isPending_82 m_X7_isPending_75
    rw [inb369, cl369, hQ.2.1]
    have e2 : 289 + 10 * p + (2 + i) = 291 + 10 * p + i := by omega
    simp (disch := omega) only [gd_s, leN, isb_b, add2N, ofL, add370, bn_s, inbN, clN, bd, nI1, b2i_0, t1, f1, e2]
    simp only [show ¬ zp s ≤ i by omega, if_false]
    cases b
    · simp [b2i]
    · by_cases hq : s (291 + 10 * p + i) = s (370 + i)
      · simp [hq, al, sg]
      · simp [hq, al, sg]
theorem r_same {s : Nat → Int32} (hL : LI s) (hQ : QI s 8) {p : Nat} (hp : p < 8) : m_X7_isPending s (nI p) = some (b2i (sm s p)) := by
  have h8 := hL p hp
  have hq := hQ.1
  unfold m_X7_isPending m_X7_isPending_26
  rw [inb369, cl369, hQ.2.1]
  simp (disch := omega) only [ofL_0, bn_s, inbN, gd_s, clN]
  rw [h8.2.1]
  simp (disch := omega) only [eqN]
  unfold sm
  by_cases h0 : zs s p = zp s
  · rw [if_pos h0, decide_eq_true h0]
    exact r_same_loop hQ hp (zp s) 0 4000 true (by omega) (by omega)
  · rw [if_neg h0, decide_eq_false h0]
    exact r_same_loop hQ hp (zp s) 0 4000 false (by omega) (by omega)
theorem k_same_loop {s : Nat → Int32} {M : Nat → Nat → Int32} {sz us : Nat → Int32} {lu pu re pn : Int32} {row : Nat → Int32} (hC : CR s M sz us lu pu re) (hQ : QI s 8) (hR : QR s pn row) {p : Nat} (hp : p < 8) (he : zs s p = zp s) :
    ∀ k i n, i + k = zp s → k < n → m_X0_isSame_15 row M sz (nI p) (nI (zp s)) n (nI i) = some (b2i (al (sg s p) k i)) := by
  have h8 := hQ.1
  intro k
  induction k with
  | zero =>
    intro i n h1 h3
    obtain ⟨n, rfl⟩ : ∃ z, n = z + 1 := ⟨n - 1, by omega⟩
    rw [m_X0_isSame_15]
    simp (disch := omega) only [leN]
    simp [show zp s ≤ i by omega, al, b2i]
  | succ k ih =>
    intro i n h1 h3
    obtain ⟨n, rfl⟩ : ∃ z, n = z + 1 := ⟨n - 1, by omega⟩
    have c2 := (hC.1 p hp).2.1 i (by omega)
    have c3 := hR.2 i (by omega)
    rw [m_X0_isSame_15]
    simp (disch := omega) only [leN, inbN, gd_s, clN, bd, nI1, c2, c3]
    rw [ih (i + 1) n (by omega) (by omega)]
    simp only [show ¬ zp s ≤ i by omega, if_false]
    by_cases hq : s (291 + 10 * p + i) = s (370 + i)
    · simp [hq, al, sg]
    · simp [hq, al, sg, b2i]
theorem k_same {s : Nat → Int32} {M : Nat → Nat → Int32} {sz us : Nat → Int32} {lu pu re pn : Int32} {row : Nat → Int32} (hC : CR s M sz us lu pu re) (hL : LI s) (hQ : QI s 8) (hR : QR s pn row) {p : Nat} (hp : p < 8) :
    m_X0_isSame row M sz (nI p) (nI (zp s)) = some (b2i (sm s p)) := by
  have h8 := hL p hp
  have hq := hQ.1
  unfold m_X0_isSame sm
  simp (disch := omega) only [inbN, gd_s, clN]
  rw [(hC.1 p hp).1, h8.2.1]
  simp (disch := omega) only [eqN]
  by_cases h0 : zs s p = zp s
  · have h := k_same_loop hC hQ hR hp h0 (zp s) 0 4000 (by omega) (by omega)
    rw [if_pos h0, decide_eq_true h0, Bool.true_and]
    exact h
  · rw [if_neg h0, decide_eq_false h0]
    rfl
-- branches in the pending line
def bg (s : Nat → Int32) : Nat → Bool := fun i => decide (s (6 * zq s i) = 2)
def br (s : Nat → Int32) : Nat := ctb (bg s) (zp s) 0
theorem r_br_loop {s : Nat → Int32} (hQ : QI s 8) : ∀ k i n c, i + k = zp s → c ≤ i → k < n → m_X7_pendingBranches_4 s n (nI c) (nI i) = some (nI (c + ctb (bg s) k i)) := by
  have h8 := hQ.1
  intro k
  induction k with
  | zero =>
    intro i n c h1 hc h3
    obtain ⟨n, rfl⟩ : ∃ z, n = z + 1 := ⟨n - 1, by omega⟩
    rw [m_X7_pendingBranches_4, inb369, cl369, hQ.2.1]
    simp (disch := omega) only [gd_s, leN]
    simp [show zp s ≤ i by omega, ctb]
  | succ k ih =>
    intro i n c h1 hc h3
    obtain ⟨n, rfl⟩ : ∃ z, n = z + 1 := ⟨n - 1, by omega⟩
    have hz := hQ.2.2 i (by omega)
    have i0 := ih (i + 1) n c (by omega) (by omega) (by omega)
    have i1 := ih (i + 1) n (c + 1) (by omega) (by omega) (by omega)
    have e0 : nI c + 0 = nI c := nI_add c 0
    rw [m_X7_pendingBranches_4, inb369, cl369, hQ.2.1]
    unfold m_X7_pendingBranches_45
    simp (disch := omega) only [gd_s, leN, add370, bd, inbN, clN, nI1, e0]
    rw [hz.2]
    simp (disch := omega) only [of_0, bn_s, inbN, gd_s, clN, i0, i1]
    simp only [show ¬ zp s ≤ i by omega, if_false, ctb]
    by_cases hq : s (6 * zq s i) = 2
    · have hq2 : bg s i = true := decide_eq_true hq
      simp [hq, hq2, Nat.add_assoc]
    · have hq2 : bg s i = false := decide_eq_false hq
      simp [hq, hq2]
theorem r_br {s : Nat → Int32} (hQ : QI s 8) : m_X7_pendingBranches s = some (nI (br s)) := by
  have h8 := hQ.1
  unfold m_X7_pendingBranches br
  have h := r_br_loop hQ (zp s) 0 4000 0 (by omega) (by omega) (by omega)
  rw [Nat.zero_add] at h
  exact h
theorem k_br_loop {s kd row : Nat → Int32} {pn : Int32} (hk : ∀ a, a < 48 → kd a = s (6 * a)) (hQ : QI s 8) (hR : QR s pn row) : ∀ k i n c, i + k = zp s → c ≤ i → k < n → m_X3_pendingBranches_4 pn row kd n (nI c) (nI i) = some (nI (c + ctb (bg s) k i)) := by
  have h8 := hQ.1
  have hpn : pn = nI (zp s) := hR.1.trans hQ.2.1
  subst hpn
  intro k
  induction k with
  | zero =>
    intro i n c h1 hc h3
    obtain ⟨n, rfl⟩ : ∃ z, n = z + 1 := ⟨n - 1, by omega⟩
    rw [m_X3_pendingBranches_4]
    simp (disch := omega) only [leN]
    simp [show zp s ≤ i by omega, ctb]
  | succ k ih =>
    intro i n c h1 hc h3
    obtain ⟨n, rfl⟩ : ∃ z, n = z + 1 := ⟨n - 1, by omega⟩
    have hz := hQ.2.2 i (by omega)
    have i0 := ih (i + 1) n c (by omega) (by omega) (by omega)
    have i1 := ih (i + 1) n (c + 1) (by omega) (by omega) (by omega)
    rw [m_X3_pendingBranches_4]
    unfold m_X3_pendingBranches_33
    simp (disch := omega) only [leN, inbN, gd_s, clN, bd, nI1]
    rw [hR.2 i (by omega), hz.2]
    simp (disch := omega) only [inbN, gd_s, clN, hk (zq s i) hz.1, i0, i1]
    simp only [show ¬ zp s ≤ i by omega, if_false, ctb]
    by_cases hq : s (6 * zq s i) = 2
    · have hq2 : bg s i = true := decide_eq_true hq
      simp [hq, hq2, Nat.add_assoc]
    · have hq2 : bg s i = false := decide_eq_false hq
      simp [hq, hq2]
theorem k_br {s kd row : Nat → Int32} {pn : Int32} (hk : ∀ a, a < 48 → kd a = s (6 * a)) (hQ : QI s 8) (hR : QR s pn row) : m_X3_pendingBranches pn row kd = some (nI (br s)) := by
  have h8 := hQ.1
  unfold m_X3_pendingBranches br
  have h := k_br_loop hk hQ hR (zp s) 0 4000 0 (by omega) (by omega) (by omega)
  rw [Nat.zero_add] at h
  exact h
-- the place of a new line
def pl (s : Nat → Int32) (q : Nat) : Nat := if zs s (2 * q) = 0 ∨ (0 < zs s (2 * q + 1) ∧ ¬ s (290 + 10 * (2 * q + 1)) ≤ s (290 + 10 * (2 * q))) then 2 * q else 2 * q + 1
theorem r_place {s : Nat → Int32} (hL : LI s) {q : Nat} (hq : q < 4) : m_X7_placeIn s (nI q) = some (nI (pl s q)) := by
  have h0 := hL (2 * q) (by omega)
  have h1 := hL (2 * q + 1) (by omega)
  have e1 : (2 : Int32) * nI q = nI (2 * q) := pk_mul 2 q
  unfold m_X7_placeIn m_X7_placeIn_57 m_X7_placeIn_61 m_X7_placeIn_62 m_X7_placeIn_74
  simp (disch := omega) only [e1, bd, ofL_0, ofL_1, nI1, bn_s, inbN, gd_s, clN]
  rw [h0.2.1, h1.2.1]
  simp (disch := omega) only [eqN0, leN0]
  have e2 : 289 + 10 * (2 * q) + 1 = 290 + 10 * (2 * q) := by omega
  have e3 : 289 + 10 * (2 * q + 1) + 1 = 290 + 10 * (2 * q + 1) := by omega
  rw [e2, e3]
  unfold pl
  by_cases a : zs s (2 * q) = 0
  · simp [a]
  · by_cases b : zs s (2 * q + 1) = 0
    · simp [a, b]
    · by_cases c : s (290 + 10 * (2 * q + 1)) ≤ s (290 + 10 * (2 * q))
      · simp [a, b, c]
      · simp [a, b, c, show 0 < zs s (2 * q + 1) by omega]
theorem i32_le_of_not {x y : Int32} (h : ¬ x ≤ y) : y ≤ x := by
  rw [i32_le] at h ⊢
  omega
theorem i32_eq_of {x y : Int32} (h1 : x ≤ y) (h2 : y ≤ x) : x = y := by
  rw [i32_le] at h1 h2
  exact Int32.toInt_inj.mp (by omega)
theorem leN_t {a b : Nat} (hb : b < 2147483648) (h : a ≤ b) : nI a ≤ nI b := by
  rw [leN (by omega) hb]
  exact h
theorem leN_f {a b : Nat} (ha : a < 2147483648) (h : b < a) : ¬ nI a ≤ nI b := by
  rw [leN ha (by omega)]
  omega
theorem ptf_e {sz us : Nat → Int32} {q n : Nat} (hq : q < 4) (x : Int32) : m_X0_placeToFill_4 sz us (nI (2 * q)) (n + 1) x (nI (2 * q + 2)) = some x := by
  have e2 : nI (2 * q) + 2 = nI (2 * q + 2) := nI_add (2 * q) 2
  rw [m_X0_placeToFill_4, e2, if_pos (leN_t (by omega) (by omega))]
theorem ptf_s {s : Nat → Int32} {sz us : Nat → Int32} {q n b j : Nat} (hq : q < 4) (hL : LI s) (hc : sz j = s (289 + 10 * j)) (hj : j < 2 * q + 2) (hb : b < 8) :
    m_X0_placeToFill_4 sz us (nI (2 * q)) (n + 1) (nI b) (nI j) = if zs s j = 0 then some (nI j) else if us b ≤ us j then m_X0_placeToFill_4 sz us (nI (2 * q)) n (nI b) (nI (j + 1)) else m_X0_placeToFill_4 sz us (nI (2 * q)) n (nI j) (nI (j + 1)) := by
  have e2 : nI (2 * q) + 2 = nI (2 * q + 2) := nI_add (2 * q) 2
  have h0 := hL j (by omega)
  have e1 : (nI (zs s j) = 0) = (zs s j = 0) := eqN0 (by omega)
  rw [m_X0_placeToFill_4, e2, if_neg (leN_f (by omega) (by omega)), inbN (by omega) (by omega), gd_s, clN (by omega), hc, h0.2.1, gd_s, inbN (by omega) (by omega), gd_s, clN (by omega)]
  unfold m_X0_placeToFill_39
  simp only [bd, nI1, e1]
theorem k_place {s : Nat → Int32} {M : Nat → Nat → Int32} {sz us : Nat → Int32} {lu pu re : Int32} {B : Nat} (hC : CR s M sz us lu pu re) (hL : LI s) (hU : UI s B) {q : Nat} (hq : q < 4) : m_X0_placeToFill sz us (nI (2 * q)) = some (nI (pl s q)) := by
  have h0 := hL (2 * q) (by omega)
  have h1 := hL (2 * q + 1) (by omega)
  obtain ⟨c0, -, d0⟩ := hC.1 (2 * q) (by omega)
  obtain ⟨c1, -, d1⟩ := hC.1 (2 * q + 1) (by omega)
  have hr : us (2 * q) ≤ us (2 * q) := by rw [i32_le]; omega
  have s1 := ptf_s (us := us) (n := 3999) hq hL c0 (show 2 * q < 2 * q + 2 by omega) (show 2 * q < 8 by omega)
  have s2 := ptf_s (us := us) (n := 3998) hq hL c1 (show 2 * q + 1 < 2 * q + 2 by omega) (show 2 * q < 8 by omega)
  have s3 := ptf_e (sz := sz) (us := us) (n := 3997) hq (nI (2 * q))
  have s4 := ptf_e (sz := sz) (us := us) (n := 3997) hq (nI (2 * q + 1))
  unfold m_X0_placeToFill pl
  refine Eq.trans s1 ?_
  by_cases a : zs s (2 * q) = 0
  · rw [if_pos a, if_pos (Or.inl a)]
  · rw [if_neg a, if_pos hr, s2]
    by_cases b : zs s (2 * q + 1) = 0
    · rw [if_pos b, if_neg (by omega)]
    · rw [if_neg b, s3, s4]
      have u0 := d0 (by omega)
      have u1 := d1 (by omega)
      have hne := hU.2 (2 * q) (2 * q + 1) (by omega) (by omega) (by omega) (by omega) (by omega)
      rw [u0, u1]
      by_cases c : s (290 + 10 * (2 * q + 1)) ≤ s (290 + 10 * (2 * q))
      · have c2 : ¬ s (290 + 10 * (2 * q)) ≤ s (290 + 10 * (2 * q + 1)) := fun h => hne (i32_eq_of h c)
        simp [a, c, c2]
      · have c2 := i32_le_of_not c
        simp [c, c2, show 0 < zs s (2 * q + 1) by omega]
