-- ===== 74: dropping lines =====
def EMP (s t : Nat → Int32) (p : Nat) : Prop := (∀ i, i < 10 → t (289 + 10 * p + i) = 0) ∧ t 388 = s 388 + (if zs s p = 0 then 0 else 1) ∧ ∀ j, (j < 289 + 10 * p ∨ 299 + 10 * p ≤ j) → j ≠ 388 → t j = s j
theorem r_emp_loop {p : Nat} (hp : p < 8) : ∀ k i n (S : Nat → Int32), i + k = 10 → k < n → ∃ u, m_X7_empties_31 (nI p) n S (nI i) = some u ∧ (∀ l, i ≤ l → l < 10 → u (289 + 10 * p + l) = 0) ∧ ∀ j, (j < 289 + 10 * p + i ∨ 299 + 10 * p ≤ j) → u j = S j := by
  intro k
  induction k with
  | zero =>
    intro i n S h1 h2
    obtain ⟨n, rfl⟩ : ∃ z, n = z + 1 := ⟨n - 1, by omega⟩
    refine ⟨S, ?_, fun l h3 h4 => by omega, fun j _ => rfl⟩
    rw [m_X7_empties_31, if_pos (show (10 : Int32) ≤ nI i from leN_t (a := 10) (by omega) (by omega))]
  | succ k ih =>
    intro i n S h1 h2
    obtain ⟨n, rfl⟩ : ∃ z, n = z + 1 := ⟨n - 1, by omega⟩
    obtain ⟨u, a1, a2, a3⟩ := ih (i + 1) n (upd S (289 + 10 * p + i) 0) (by omega) (by omega)
    refine ⟨u, ?_, fun l h3 h4 => ?_, fun j hj => ?_⟩
    · rw [m_X7_empties_31, if_neg (show ¬ (10 : Int32) ≤ nI i from leN_f (a := 10) (by omega) (by omega)), ofL, bn_s, inbN (by omega) (by omega), gd_s, clN (by omega), bdE, bdE, nI1]
      exact a1
    · by_cases hl : l = i
      · rw [hl, a3 _ (by omega), upd_s]
      · exact a2 l (by omega) h4
    · rw [a3 j (by omega), upd_n (by omega)]
theorem r_emp {s : Nat → Int32} (hL : LI s) {p : Nat} (hp : p < 8) : ∃ t, m_X7_empties s (nI p) = some t ∧ EMP s t p := by
  have h8 := hL p hp
  obtain ⟨u, a1, a2, a3⟩ := r_emp_loop hp 10 0 4000 (upd s 388 (s 388 + (if zs s p = 0 then 0 else 1))) (by omega) (by omega)
  refine ⟨u, ?_, fun i hi => a2 i (by omega) hi, by rw [a3 _ (by omega), upd_s], fun j h1 h2 => by rw [a3 j (by omega), upd_n h2]⟩
  have e0 : (nI (zs s p) ≤ 0) = (zs s p = 0) := leN0 (by omega)
  have e27 : ∀ c, m_X7_empties_27 (nI p) s 388 (s 388) c = m_X7_empties_31 (nI p) 4000 (upd s 388 (s 388 + c)) 0 := by
    intro c
    unfold m_X7_empties_27
    rw [inb388, gd_s, cl388, bdE]
  unfold m_X7_empties
  rw [inb388, gd_s, cl388, ofL_0, bn_s, inbN (by omega) (by omega), gd_s, clN (by omega), h8.2.1, e27, e27]
  simp only [e0]
  by_cases z : zs s p = 0
  · rw [if_pos z]
    rw [if_pos z] at a1
    exact a1
  · rw [if_neg z]
    rw [if_neg z] at a1
    exact a1
theorem EMP_all {s t : Nat → Int32} {pn : Int32} {row : Nat → Int32} {M : Nat → Nat → Int32} {sz us : Nat → Int32} {lu pu re : Int32} {B p : Nat} (hp : p < 8) (h : EMP s t p) (hM : MR s pn row M sz us lu pu re B) : MR t pn row M (upd sz p 0) us lu pu re B := by
  obtain ⟨h1, -, h3⟩ := h
  obtain ⟨hC, hL, hQ, hR, hU⟩ := hM
  have e0 : t (289 + 10 * p) = 0 := h1 0 (by omega)
  have z0 : zs t p = 0 := by unfold zs; rw [e0]; rfl
  have hz : ∀ p', p' < 8 → p' ≠ p → t (289 + 10 * p') = s (289 + 10 * p') := fun p' hp' hne => h3 _ (by omega) (by omega)
  have hb : ∀ p', p' < 8 → p' ≠ p → t (290 + 10 * p') = s (290 + 10 * p') := fun p' hp' hne => h3 _ (by omega) (by omega)
  have ha : ∀ p' i, p' < 8 → p' ≠ p → i < 8 → t (291 + 10 * p' + i) = s (291 + 10 * p' + i) := fun p' i hp' hne hi => h3 _ (by omega) (by omega)
  obtain ⟨q1, q2⟩ := QQ_congr (t := t) (by omega) (fun j g1 g2 => h3 j (by omega) (by omega)) hQ hR
  have zz : ∀ p', p' < 8 → 0 < zs t p' → p' ≠ p ∧ 0 < zs s p' := by
    intro p' hp' h0
    by_cases hx : p' = p
    · rw [hx, z0] at h0
      omega
    · exact ⟨hx, by rw [zs_of (hz p' hp' hx)] at h0; exact h0⟩
  refine ⟨⟨fun p' hp' => ?_, by rw [h3 _ (by omega) (by omega)]; exact hC.2.1, by rw [h3 _ (by omega) (by omega)]; exact hC.2.2.1, by rw [h3 _ (by omega) (by omega)]; exact hC.2.2.2⟩, fun p' hp' => ?_, q1, q2, ?_⟩
  · by_cases hx : p' = p
    · rw [hx, upd_s, e0, z0]
      exact ⟨rfl, fun i hi => by omega, fun h => by omega⟩
    · have l1 := (hL p' hp').1
      obtain ⟨c1, c2, c3⟩ := hC.1 p' hp'
      rw [upd_n hx, hz p' hp' hx, zs_of (hz p' hp' hx), hb p' hp' hx]
      exact ⟨c1, fun i hi => by rw [ha p' i hp' hx (by omega)]; exact c2 i hi, c3⟩
  · by_cases hx : p' = p
    · rw [hx, z0, e0]
      exact ⟨by omega, rfl, fun i hi => by omega⟩
    · obtain ⟨l1, l2, l3⟩ := hL p' hp'
      rw [zs_of (hz p' hp' hx), hz p' hp' hx]
      refine ⟨l1, l2, fun i hi => ?_⟩
      rw [za_of (ha p' i hp' hx (by omega)), ha p' i hp' hx (by omega)]
      exact l3 i hi
  · obtain ⟨⟨u, b1, b2, b3⟩, b4⟩ := hU
    refine ⟨⟨u, b1, by rw [h3 _ (by omega) (by omega)]; exact b2, fun p' hp' h0 => ?_⟩, fun p1 p2 g1 g2 hne h0 h0' => ?_⟩
    · obtain ⟨x1, x2⟩ := zz p' hp' h0
      rw [hb p' hp' x1]
      exact b3 p' hp' x2
    · obtain ⟨x1, x2⟩ := zz p1 g1 h0
      obtain ⟨x3, x4⟩ := zz p2 g2 h0'
      rw [hb p1 g1 x1, hb p2 g2 x3]
      exact b4 p1 p2 g1 g2 hne x2 x4
theorem has_pos {s : Nat → Int32} {p a : Nat} (h : has s p a = true) : ¬ zs s p = 0 := by
  intro z
  unfold has at h
  rw [z] at h
  simp [ex] at h
theorem drop_loop {a : Nat} {x2 x3 : Int32} : ∀ k i n1 n2 c (s : Nat → Int32) (pn : Int32) (row : Nat → Int32) (M : Nat → Nat → Int32) (sz us : Nat → Int32) (lu pu re : Int32) (B : Nat) (dr : Int32), i + k = 8 → k < n1 → k < n2 → MR s pn row M sz us lu pu re B →
    ∃ cnt t sz', m_X7_writes_6 (nI a) x2 x3 n1 s (nI c) (nI i) = m_X7_writes_44 (nI a) x2 x3 4000 t (nI (c + cnt)) 0 0 ∧ m_X0_dropHolding_4 M (nI a) n2 sz dr (nI c) (nI i) = some (nI (c + cnt), sz', dr + nI (c + cnt)) ∧ MR t pn row M sz' us lu pu re B ∧ t 388 = s 388 + nI cnt ∧ ∀ j, (j < 289 ∨ 369 ≤ j) → j ≠ 388 → t j = s j := by
  intro k
  induction k with
  | zero =>
    intro i n1 n2 c s pn row M sz us lu pu re B dr hi h1 h2 hM
    obtain ⟨n1, rfl⟩ : ∃ z, n1 = z + 1 := ⟨n1 - 1, by omega⟩
    obtain ⟨n2, rfl⟩ : ∃ z, n2 = z + 1 := ⟨n2 - 1, by omega⟩
    have e8 : (8 : Int32) ≤ nI i := leN_t (a := 8) (by omega) (by omega)
    refine ⟨0, s, sz, ?_, ?_, hM, (add0N _).symm, fun j _ _ => rfl⟩
    · rw [m_X7_writes_6, if_pos e8, Nat.add_zero]
    · rw [m_X0_dropHolding_4, if_pos e8, bdE, Nat.add_zero]
  | succ k ih =>
    intro i n1 n2 c s pn row M sz us lu pu re B dr hi h1 h2 hM
    obtain ⟨n1, rfl⟩ : ∃ z, n1 = z + 1 := ⟨n1 - 1, by omega⟩
    obtain ⟨n2, rfl⟩ : ∃ z, n2 = z + 1 := ⟨n2 - 1, by omega⟩
    have e8 : ¬ (8 : Int32) ≤ nI i := leN_f (a := 8) (by omega) (by omega)
    have hp : i < 8 := by omega
    have er : m_X7_writes_6 (nI a) x2 x3 (n1 + 1) s (nI c) (nI i) = if has s i a = true then bn (m_X7_empties s (nI i)) (fun y26 => m_X7_writes_6 (nI a) x2 x3 n1 y26 (nI (c + 1)) (nI (i + 1))) else m_X7_writes_6 (nI a) x2 x3 n1 s (nI c) (nI (i + 1)) := by
      rw [m_X7_writes_6, if_neg e8, r_contains hM.2.1 hp, bn_s]
      unfold m_X7_writes_32
      simp only [bdE, nI1]
      cases has s i a
      · rw [if_pos (show b2i false = 0 from rfl), if_neg (by decide)]
      · rw [if_neg (show ¬ b2i true = 0 by decide), if_pos rfl]
    have ek : m_X0_dropHolding_4 M (nI a) (n2 + 1) sz dr (nI c) (nI i) = if has s i a = true then m_X0_dropHolding_4 M (nI a) n2 (upd sz i 0) dr (nI (c + 1)) (nI (i + 1)) else m_X0_dropHolding_4 M (nI a) n2 sz dr (nI c) (nI (i + 1)) := by
      rw [m_X0_dropHolding_4, if_neg e8, k_holds hM.1 hM.2.1 hp, bn_s, inbN hp (by omega), gd_s, clN (by omega)]
      unfold m_X0_dropHolding_29
      simp only [bdE, nI1]
      cases has s i a
      · rw [if_pos (show b2i false = 0 from rfl), if_neg (by decide)]
      · rw [if_neg (show ¬ b2i true = 0 by decide), if_pos rfl]
    by_cases h : has s i a = true
    · obtain ⟨t, t1, t2⟩ := r_emp hM.2.1 hp
      obtain ⟨cnt, t', sz', a1, a2, a3, a4, a5⟩ := ih (i + 1) n1 n2 (c + 1) t pn row M (upd sz i 0) us lu pu re B dr (by omega) (by omega) (by omega) (EMP_all hp t2 hM)
      have e1 : c + 1 + cnt = c + (1 + cnt) := by omega
      rw [e1] at a1 a2
      refine ⟨1 + cnt, t', sz', ?_, ?_, a3, ?_, fun j hj hj2 => by rw [a5 j hj hj2, t2.2.2 j (by omega) hj2]⟩
      · rw [er, if_pos h, t1, bn_s, a1]
      · rw [ek, if_pos h, a2]
      · rw [a4, t2.2.1, if_neg (has_pos h)]
        exact addNN _ 1 cnt
    · obtain ⟨cnt, t', sz', a1, a2, a3, a4, a5⟩ := ih (i + 1) n1 n2 c s pn row M sz us lu pu re B dr (by omega) (by omega) (by omega) hM
      exact ⟨cnt, t', sz', by rw [er, if_neg h, a1], by rw [ek, if_neg h, a2], a3, a4, a5⟩
