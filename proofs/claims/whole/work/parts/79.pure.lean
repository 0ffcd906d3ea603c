-- ===== 79: undoing =====
theorem r_undo_loop {sv : Nat → Int32} {m : Nat} (hm : m < 6) {tw : Int32} : ∀ k i n (s : Nat → Int32), i + k = 389 → k < n → ∃ u, m_X7_undo_33 sv n tw s (nI m) (nI i) = some (nI m, tw, u, nI m) ∧ (∀ l, i ≤ l → l < 389 → u l = sv (389 * m + l)) ∧ ∀ j, j < i → u j = s j := by
  have hl : (389 : Int32) * nI m = nI (389 * m) := pk_mul 389 m
  intro k
  induction k with
  | zero =>
    intro i n s h1 h2
    obtain ⟨n, rfl⟩ : ∃ z, n = z + 1 := ⟨n - 1, by omega⟩
    refine ⟨s, ?_, fun l h3 h4 => by omega, fun j _ => rfl⟩
    rw [m_X7_undo_33, if_pos (show (389 : Int32) ≤ nI i from leN_t (a := 389) (by omega) (by omega))]
  | succ k ih =>
    intro i n s h1 h2
    obtain ⟨n, rfl⟩ : ∃ z, n = z + 1 := ⟨n - 1, by omega⟩
    obtain ⟨u, a1, a2, a3⟩ := ih (i + 1) n (upd s i (sv (389 * m + i))) (by omega) (by omega)
    refine ⟨u, ?_, fun l h3 h4 => ?_, fun j hj => ?_⟩
    · rw [m_X7_undo_33, if_neg (show ¬ (389 : Int32) ≤ nI i from leN_f (a := 389) (by omega) (by omega)), bdE, hl, nI_add, inbN (by omega) (by omega), gd_s, inbN (by omega) (by omega), gd_s, clN (by omega), clN (by omega), bdE, bdE, nI1]
      exact a1
    · by_cases e : l = i
      · rw [e, a3 _ (by omega), upd_s]
      · exact a2 l (by omega) h4
    · rw [a3 j (by omega), upd_n (by omega)]
theorem undo_sim {s : Nat → Int32} {z : zMT} {B : Nat} {sv : Nat → Int32} {H : Nat → zMT} {od : Int32} {m : Nat} (hH : HR sv (nI (m + 1)) H od (nI (m + 1)) B) (hm : m < 6) (tw : Int32) :
    ∃ u z', m_X7_undo_33 sv 4000 tw s (nI m) 0 = some (nI m, tw, u, nI m) ∧ m_X2_restore H od z.1 z.2.1 z.2.2.1 z.2.2.2.1 z.2.2.2.2.1 z.2.2.2.2.2.1 z.2.2.2.2.2.2.1 z.2.2.2.2.2.2.2.1 z.2.2.2.2.2.2.2.2.1 z.2.2.2.2.2.2.2.2.2.1 z.2.2.2.2.2.2.2.2.2.2.1 z.2.2.2.2.2.2.2.2.2.2.2.1 z.2.2.2.2.2.2.2.2.2.2.2.2.1 z.2.2.2.2.2.2.2.2.2.2.2.2.2.1 z.2.2.2.2.2.2.2.2.2.2.2.2.2.2.1 z.2.2.2.2.2.2.2.2.2.2.2.2.2.2.2.1 z.2.2.2.2.2.2.2.2.2.2.2.2.2.2.2.2.1 z.2.2.2.2.2.2.2.2.2.2.2.2.2.2.2.2.2.1 z.2.2.2.2.2.2.2.2.2.2.2.2.2.2.2.2.2.2.1 z.2.2.2.2.2.2.2.2.2.2.2.2.2.2.2.2.2.2.2.1 z.2.2.2.2.2.2.2.2.2.2.2.2.2.2.2.2.2.2.2.2.1 z.2.2.2.2.2.2.2.2.2.2.2.2.2.2.2.2.2.2.2.2.2.1 z.2.2.2.2.2.2.2.2.2.2.2.2.2.2.2.2.2.2.2.2.2.2 (nI (m + 1)) = some (z'.1, z'.2.1, z'.2.2.1, z'.2.2.2.1, z'.2.2.2.2.1, z'.2.2.2.2.2.1, z'.2.2.2.2.2.2.1, z'.2.2.2.2.2.2.2.1, z'.2.2.2.2.2.2.2.2.1, z'.2.2.2.2.2.2.2.2.2.1, z'.2.2.2.2.2.2.2.2.2.2.1, z'.2.2.2.2.2.2.2.2.2.2.2.1, z'.2.2.2.2.2.2.2.2.2.2.2.2.1, z'.2.2.2.2.2.2.2.2.2.2.2.2.2.1, z'.2.2.2.2.2.2.2.2.2.2.2.2.2.2.1, z'.2.2.2.2.2.2.2.2.2.2.2.2.2.2.2.1, z'.2.2.2.2.2.2.2.2.2.2.2.2.2.2.2.2.1, z'.2.2.2.2.2.2.2.2.2.2.2.2.2.2.2.2.2.1, z'.2.2.2.2.2.2.2.2.2.2.2.2.2.2.2.2.2.2.1, z'.2.2.2.2.2.2.2.2.2.2.2.2.2.2.2.2.2.2.2.1, z'.2.2.2.2.2.2.2.2.2.2.2.2.2.2.2.2.2.2.2.2.1, z'.2.2.2.2.2.2.2.2.2.2.2.2.2.2.2.2.2.2.2.2.2.1, z'.2.2.2.2.2.2.2.2.2.2.2.2.2.2.2.2.2.2.2.2.2.2, nI m) ∧ RZ u z' B ∧ HR sv (nI m) H od (nI m) B := by
  obtain ⟨m', o, h1, h2, h3, h4, h5, h6⟩ := hH
  have e : m' = m + 1 := ((nI_eq (by omega) (by omega)).mp h3).symm
  subst e
  subst h5
  obtain ⟨z', c1, c2⟩ := copy_ok (H ((o + m) % 6)) z
  have hv : nI o + nI m - (nI o + nI m) / 6 * 6 = nI ((o + m) % 6) := by rw [nI_add, mod6N (by omega)]
  have hlt : (o + m) % 6 < 6 := Nat.mod_lt _ (by decide)
  obtain ⟨u, a1, a2, a3⟩ := r_undo_loop (sv := sv) hm (tw := tw) 389 0 4000 s (by omega) (by omega)
  refine ⟨u, z', a1, ?_, RZ_congr (fun i hi => a2 i (by omega) hi) (c2 _ _ (h6 m (by omega))), m, o, by omega, h2, rfl, rfl, rfl, fun j hj => h6 j (by omega)⟩
  have hs : nI (m + 1) - 1 = nI m := by rw [sub1N (by omega)]; rfl
  unfold m_X2_restore
  rw [bdE, hs, bdE, hv, inbN hlt (by omega), gd_s, clN (by omega), c1, bn_s]
