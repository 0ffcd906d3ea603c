-- ===== 76: patterns, jumps, flushes =====
theorem pat_sim {s kd tg oc ln : Nat → Int32} {pn tm ft xe th ms fl lf : Int32} {row : Nat → Int32} {M : Nat → Nat → Int32} {sz us : Nat → Int32} {lu pu re : Int32} {ct cn : Nat → Int32} {nx : Int32} {B : Nat} (h : FRl s kd tg oc ln pn tm ft xe th ms fl lf row M sz us lu pu re ct cn nx B) {a l : Nat} (ha : a < 48) (l1 : 1 ≤ l) (l8 : l ≤ 8) (x2 : Int32) :
    ∃ v T, m_X7_patterns s (nI a) x2 (nI l) = some (v, T) ∧ m_X4_replacePattern oc ln ct (nI a) x2 (nI l) = some (v, upd oc a x2, upd ln a (nI l), upd ct a 0) ∧ FRl T kd tg (upd oc a x2) (upd ln a (nI l)) pn tm ft xe th ms fl lf row M sz us lu pu re (upd ct a 0) cn nx B ∧ T 388 = s 388 := by
  obtain ⟨hP, hI, hM, v1, v2, v3, v4, v5, v6, v7⟩ := h
  obtain ⟨T, hT⟩ : ∃ T, T = upd (upd (upd s (6 * a + 4) 0) (6 * a + 2) x2) (6 * a + 3) (nI l) := ⟨_, rfl⟩
  have T4 : T (6 * a + 4) = 0 := by rw [hT, upd_n (by omega), upd_n (by omega), upd_s]
  have T2 : T (6 * a + 2) = x2 := by rw [hT, upd_n (by omega), upd_s]
  have T3 : T (6 * a + 3) = nI l := by rw [hT, upd_s]
  have Ts : ∀ j, j ≠ 6 * a + 4 → j ≠ 6 * a + 2 → j ≠ 6 * a + 3 → T j = s j := fun j g1 g2 g3 => by rw [hT, upd_n g3, upd_n g2, upd_n g1]
  have Tc : ∀ j, 288 ≤ j → T j = s j := fun j g => Ts j (by omega) (by omega) (by omega)
  refine ⟨s (6 * a + 4), T, ?_, ?_, ⟨⟨fun b hb => ?_, by rw [Tc _ (by omega)]; exact hP.2⟩, ⟨fun b hb => ?_, by rw [Tc _ (by omega)]; exact hI.2⟩, MR_congr (fun j g1 g2 => Tc j (by omega)) (Tc _ (by omega)) (Tc _ (by omega)) hM, ?_, ?_, ?_, ?_, ?_, ?_, ?_⟩, Tc _ (by omega)⟩
  · unfold m_X7_patterns
    rw [of_4, bn_s, inbN (by omega) (by omega), gd_s, clN (by omega), bdE, bn_s, inbN (by omega) (by omega), gd_s, clN (by omega), bdE, of_2, bn_s, inbN (by omega) (by omega), gd_s, clN (by omega), bdE, of_3, bn_s, inbN (by omega) (by omega), gd_s, clN (by omega), bdE, hT]
  · unfold m_X4_replacePattern
    rw [inbN ha (by omega), gd_s, clN (by omega), bdE, gd_s, bdE, gd_s, bdE, gd_s, bdE, (hP.1 a ha).2.2.2.2.1]
  · obtain ⟨p1, p2, p3, p4, p5, p6⟩ := hP.1 b hb
    rw [Ts (6 * b) (by omega) (by omega) (by omega), Ts (6 * b + 1) (by omega) (by omega) (by omega), Ts (6 * b + 5) (by omega) (by omega) (by omega)]
    by_cases e : b = a
    · rw [e, upd_s, upd_s, upd_s, T2, T3, T4]
      rw [e] at p1 p2 p6
      exact ⟨p1, p2, rfl, rfl, rfl, p6⟩
    · rw [upd_n e, upd_n e, upd_n e, Ts (6 * b + 2) (by omega) (by omega) (by omega), Ts (6 * b + 3) (by omega) (by omega) (by omega), Ts (6 * b + 4) (by omega) (by omega) (by omega)]
      exact ⟨p1, p2, p3, p4, p5, p6⟩
  · obtain ⟨p1, p2, p3, p4⟩ := hI.1 b hb
    rw [Ts (6 * b) (by omega) (by omega) (by omega), Ts (6 * b + 1) (by omega) (by omega) (by omega), Ts (6 * b + 5) (by omega) (by omega) (by omega)]
    by_cases e : b = a
    · rw [e, T3]
      rw [e] at p1 p2 p4
      exact ⟨p1, p2, ⟨l, l1, l8, rfl⟩, p4⟩
    · rw [Ts (6 * b + 3) (by omega) (by omega) (by omega)]
      exact ⟨p1, p2, p3, p4⟩
  · rw [Tc _ (by omega)]; exact v1
  · rw [Tc _ (by omega)]; exact v2
  · rw [Tc _ (by omega)]; exact v3
  · rw [Tc _ (by omega)]; exact v4
  · rw [Tc _ (by omega)]; exact v5
  · rw [Tc _ (by omega)]; exact v6
  · rw [Tc _ (by omega)]; exact v7
theorem jump_sim {s kd tg oc ln : Nat → Int32} {pn tm ft xe th ms fl lf : Int32} {row : Nat → Int32} {M : Nat → Nat → Int32} {sz us : Nat → Int32} {lu pu re : Int32} {ct cn : Nat → Int32} {nx : Int32} {B : Nat} (h : FRl s kd tg oc ln pn tm ft xe th ms fl lf row M sz us lu pu re ct cn nx B) {a : Nat} (ha : a < 48) :
    FRl (upd (upd s 288 (nI a)) 369 0) kd tg oc ln 0 tm ft xe th ms fl lf row M sz us lu pu re ct cn (nI a) B ∧ upd (upd s 288 (nI a)) 369 0 388 = s 388 ∧ s 288 = nx := by
  obtain ⟨hP, hI, hM, v1, v2, v3, v4, v5, v6, v7⟩ := h
  obtain ⟨T, hT⟩ : ∃ T, T = upd (upd s 288 (nI a)) 369 0 := ⟨_, rfl⟩
  have Ts : ∀ j, j ≠ 288 → j ≠ 369 → T j = s j := fun j g1 g2 => by rw [hT, upd_n g2, upd_n g1]
  have T288 : T 288 = nI a := by rw [hT, upd_n (by omega), upd_s]
  rw [← hT]
  refine ⟨⟨⟨fun b hb => ?_, T288.symm⟩, ⟨fun b hb => ?_, a, ha, T288⟩, MR_clear hM (by rw [hT, upd_s]) (fun j g1 g2 g3 => Ts j (by omega) g3) (Ts _ (by omega) (by omega)) (Ts _ (by omega) (by omega)), ?_, ?_, ?_, ?_, ?_, ?_, ?_⟩, Ts _ (by omega) (by omega), hP.2.symm⟩
  · rw [Ts _ (by omega) (by omega), Ts _ (by omega) (by omega), Ts _ (by omega) (by omega), Ts _ (by omega) (by omega), Ts _ (by omega) (by omega), Ts _ (by omega) (by omega)]
    exact hP.1 b hb
  · rw [Ts _ (by omega) (by omega), Ts _ (by omega) (by omega), Ts _ (by omega) (by omega), Ts _ (by omega) (by omega)]
    exact hI.1 b hb
  · rw [Ts _ (by omega) (by omega)]; exact v1
  · rw [Ts _ (by omega) (by omega)]; exact v2
  · rw [Ts _ (by omega) (by omega)]; exact v3
  · rw [Ts _ (by omega) (by omega)]; exact v4
  · rw [Ts _ (by omega) (by omega)]; exact v5
  · rw [Ts _ (by omega) (by omega)]; exact v6
  · rw [Ts _ (by omega) (by omega)]; exact v7
theorem flush_loop {sv : Nat → Int32} {mn x1 tw : Int32} : ∀ k i n1 n2 (s : Nat → Int32) (pn : Int32) (row : Nat → Int32) (M : Nat → Nat → Int32) (sz us : Nat → Int32) (lu pu re : Int32) (B : Nat) (dr c : Int32), i + k = 8 → k < n1 → k < n2 → MR s pn row M sz us lu pu re B →
    ∃ t sz', m_X7_flush_16 n1 tw s sv mn x1 (nI i) = some (x1, tw, upd t 369 0, sv, mn) ∧ m_X0_dropEvery_7 n2 sz dr c (nI i) = some (c, sz', dr + c) ∧ MR t pn row M sz' us lu pu re B ∧ t 388 = s 388 + nI (ctb (fun p => decide (0 < zs s p)) k i) ∧ ∀ j, (j < 289 ∨ 369 ≤ j) → j ≠ 388 → t j = s j := by
  intro k
  induction k with
  | zero =>
    intro i n1 n2 s pn row M sz us lu pu re B dr c hi h1 h2 hM
    obtain ⟨n1, rfl⟩ : ∃ z, n1 = z + 1 := ⟨n1 - 1, by omega⟩
    obtain ⟨n2, rfl⟩ : ∃ z, n2 = z + 1 := ⟨n2 - 1, by omega⟩
    have e8 : (8 : Int32) ≤ nI i := leN_t (a := 8) (by omega) (by omega)
    refine ⟨s, sz, ?_, ?_, hM, (add0N _).symm, fun j _ _ => rfl⟩
    · rw [m_X7_flush_16, if_pos e8, inb369, gd_s, cl369, bdE]
    · rw [m_X0_dropEvery_7, if_pos e8, bdE]
  | succ k ih =>
    intro i n1 n2 s pn row M sz us lu pu re B dr c hi h1 h2 hM
    obtain ⟨n1, rfl⟩ : ∃ z, n1 = z + 1 := ⟨n1 - 1, by omega⟩
    obtain ⟨n2, rfl⟩ : ∃ z, n2 = z + 1 := ⟨n2 - 1, by omega⟩
    have e8 : ¬ (8 : Int32) ≤ nI i := leN_f (a := 8) (by omega) (by omega)
    have hp : i < 8 := by omega
    obtain ⟨t, t1, t2⟩ := r_emp hM.2.1 hp
    obtain ⟨u, sz', a1, a2, a3, a4, a5⟩ := ih (i + 1) n1 n2 t pn row M (upd sz i 0) us lu pu re B dr c (by omega) (by omega) (by omega) (EMP_all hp t2 hM)
    refine ⟨u, sz', ?_, ?_, a3, ?_, fun j hj hj2 => by rw [a5 j hj hj2, t2.2.2 j (by omega) hj2]⟩
    · rw [m_X7_flush_16, if_neg e8, t1, bn_s, bdE, nI1]
      exact a1
    · rw [m_X0_dropEvery_7, if_neg e8, inbN hp (by omega), gd_s, clN (by omega), bdE, bdE, nI1]
      exact a2
    · have e : ctb (fun p => decide (0 < zs t p)) k (i + 1) = ctb (fun p => decide (0 < zs s p)) k (i + 1) := by
        refine ctb_cong (fun j g1 g2 => ?_)
        have : zs t j = zs s j := zs_of (t2.2.2 _ (by omega) (by omega))
        simp only [this]
      rw [a4, e, t2.2.1]
      by_cases z : zs s i = 0
      · rw [if_pos z, Int32.add_zero, ctb]
        simp [z]
      · rw [if_neg z, ctb]
        simp only [show 0 < zs s i by omega, decide_true, if_true]
        exact addNN _ 1 _
theorem flush_sim {s kd tg oc ln : Nat → Int32} {pn tm ft xe th ms fl lf : Int32} {row : Nat → Int32} {M : Nat → Nat → Int32} {sz us : Nat → Int32} {lu pu re : Int32} {ct cn : Nat → Int32} {nx dr : Int32} {B : Nat} (h : FRl s kd tg oc ln pn tm ft xe th ms fl lf row M sz us lu pu re ct cn nx B) (sv : Nat → Int32) (mn tw : Int32) :
    ∃ T sz', m_X7_linesNow s = some (nI (nl s)) ∧ m_X7_flush_16 4000 tw s sv mn (nI (nl s)) 0 = some (nI (nl s), tw, T, sv, mn) ∧ m_X3_dropAll pn sz dr = some (nI (nl s), 0, sz', dr + nI (nl s)) ∧ FRl T kd tg oc ln 0 tm ft xe th ms fl lf row M sz' us lu pu re ct cn nx B ∧ T 388 = s 388 + nI (nl s) := by
  obtain ⟨hP, hI, hM, v1, v2, v3, v4, v5, v6, v7⟩ := h
  obtain ⟨t, sz', a1, a2, a3, a4, a5⟩ := flush_loop (sv := sv) (mn := mn) (tw := tw) (x1 := nI (nl s)) 8 0 4000 4000 s pn row M sz us lu pu re B dr (nI (nl s)) (by omega) (by omega) (by omega) hM
  have f : ∀ j, j ≠ 369 → upd t 369 0 j = t j := fun j hj => upd_n hj
  have g : ∀ j, (j < 289 ∨ 370 ≤ j) → j ≠ 388 → upd t 369 0 j = s j := fun j hj hj2 => by rw [f j (by omega), a5 j (by omega) hj2]
  refine ⟨upd t 369 0, sz', r_lines hM.2.1, a1, ?_, ⟨PR_congr (fun j hj => g j (by omega) (by omega)) hP, PI_congr (fun j hj => g j (by omega) (by omega)) hI, MR_clear a3 upd_s (fun j g1 g2 g3 => f j g3) (f _ (by omega)) (f _ (by omega)), ?_, ?_, ?_, ?_, ?_, ?_, ?_⟩, ?_⟩
  · unfold m_X3_dropAll m_X0_dropEvery
    rw [k_filled (fun p hp => (hM.1.1 p hp).1) hM.2.1, bn_s]
    have a2' : m_X0_dropEvery_7 4000 sz dr (nI (nl s)) 0 = some (nI (nl s), sz', dr + nI (nl s)) := a2
    rw [a2', bn_s]
  · rw [g _ (by omega) (by omega)]; exact v1
  · rw [g _ (by omega) (by omega)]; exact v2
  · rw [g _ (by omega) (by omega)]; exact v3
  · rw [g _ (by omega) (by omega)]; exact v4
  · rw [g _ (by omega) (by omega)]; exact v5
  · rw [g _ (by omega) (by omega)]; exact v6
  · rw [g _ (by omega) (by omega)]; exact v7
  · rw [f _ (by omega), a4]
    rfl
