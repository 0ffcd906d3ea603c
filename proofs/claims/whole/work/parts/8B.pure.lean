-- ===== 8B: a text run, both sides =====
theorem text_loop {X T : Nat → Int32} {n : Nat} (h : TX T n) (hX : ∀ i, i < n → X i = T i) {H : Nat → zMT} {od si : Int32} : ∀ k p P j1 j2 cn (s f F : Nat → Int32) (m w eb : Int32) (z : zMT) (B : Nat) (o a v c : Int32) (FA FP : Nat → Int32) (Fs Fp Fe Fm x1 : Int32), NX T n P p → p ≤ n → n < p + 2 * k → k ≤ cn → cn < j1 → cn < 1000 → k < j2 → rd T n k p = none → RZ s z B → B + 891 * k < 2147483648 →
    ∃ tot t f' F' m' w' sp' z' P' o' a' v' c' FA' FP' Fs' Fp' Fe' Fm', m_X7_reads_17 T (nI n) 1 j2 s f F m w (nI p) 0 eb 1 = some (t, f', F', m', w', sp', 0, eb + tot) ∧ RZ t z' (B + 891 * k) ∧
    m_X6_runText_44 X (nI n) j1 (nI P) o a v c z.1 z.2.1 z.2.2.1 z.2.2.2.1 z.2.2.2.2.1 z.2.2.2.2.2.1 z.2.2.2.2.2.2.1 z.2.2.2.2.2.2.2.1 z.2.2.2.2.2.2.2.2.1 z.2.2.2.2.2.2.2.2.2.1 z.2.2.2.2.2.2.2.2.2.2.1 z.2.2.2.2.2.2.2.2.2.2.2.1 z.2.2.2.2.2.2.2.2.2.2.2.2.1 z.2.2.2.2.2.2.2.2.2.2.2.2.2.1 z.2.2.2.2.2.2.2.2.2.2.2.2.2.2.1 z.2.2.2.2.2.2.2.2.2.2.2.2.2.2.2.1 z.2.2.2.2.2.2.2.2.2.2.2.2.2.2.2.2.1 z.2.2.2.2.2.2.2.2.2.2.2.2.2.2.2.2.2.1 z.2.2.2.2.2.2.2.2.2.2.2.2.2.2.2.2.2.2.1 z.2.2.2.2.2.2.2.2.2.2.2.2.2.2.2.2.2.2.2.1 z.2.2.2.2.2.2.2.2.2.2.2.2.2.2.2.2.2.2.2.2.1 z.2.2.2.2.2.2.2.2.2.2.2.2.2.2.2.2.2.2.2.2.2.1 z.2.2.2.2.2.2.2.2.2.2.2.2.2.2.2.2.2.2.2.2.2.2 FA FP Fs Fp Fe Fm H od si x1 (nI cn) = some ((0 : Nat), x1 + tot, P', o', a', v', c', z'.1, z'.2.1, z'.2.2.1, z'.2.2.2.1, z'.2.2.2.2.1, z'.2.2.2.2.2.1, z'.2.2.2.2.2.2.1, z'.2.2.2.2.2.2.2.1, z'.2.2.2.2.2.2.2.2.1, z'.2.2.2.2.2.2.2.2.2.1, z'.2.2.2.2.2.2.2.2.2.2.1, z'.2.2.2.2.2.2.2.2.2.2.2.1, z'.2.2.2.2.2.2.2.2.2.2.2.2.1, z'.2.2.2.2.2.2.2.2.2.2.2.2.2.1, z'.2.2.2.2.2.2.2.2.2.2.2.2.2.2.1, z'.2.2.2.2.2.2.2.2.2.2.2.2.2.2.2.1, z'.2.2.2.2.2.2.2.2.2.2.2.2.2.2.2.2.1, z'.2.2.2.2.2.2.2.2.2.2.2.2.2.2.2.2.2.1, z'.2.2.2.2.2.2.2.2.2.2.2.2.2.2.2.2.2.2.1, z'.2.2.2.2.2.2.2.2.2.2.2.2.2.2.2.2.2.2.2.1, z'.2.2.2.2.2.2.2.2.2.2.2.2.2.2.2.2.2.2.2.2.1, z'.2.2.2.2.2.2.2.2.2.2.2.2.2.2.2.2.2.2.2.2.2.1, z'.2.2.2.2.2.2.2.2.2.2.2.2.2.2.2.2.2.2.2.2.2.2, FA', FP', Fs', Fp', Fe', Fm', H, od, si) := by
  have h80 := h.1
  intro k
  induction k with
  | zero =>
    intro p P j1 j2 cn s f F m w eb z B o a v c FA FP Fs Fp Fe Fm x1 hN h1 h2
    omega
  | succ k ih =>
    intro p P j1 j2 cn s f F m w eb z B o a v c FA FP Fs Fp Fe Fm x1 hN h1 h2 h3 h4 h5 h6 h7 hz hB
    rw [Nat.mul_succ, ← Nat.add_assoc] at hB
    rw [Nat.mul_succ, ← Nat.add_assoc]
    generalize hK : 891 * k = K at *
    have hB1 : B + 891 < 2147483648 := by omega
    obtain ⟨j1, rfl⟩ : ∃ y, j1 = y + 1 := ⟨j1 - 1, by omega⟩
    obtain ⟨j2, rfl⟩ : ∃ y, j2 = y + 1 + 1 := ⟨j2 - 2, by omega⟩
    have hP : P < 70000 := by
      rcases hN with ⟨rfl, -⟩ | ⟨-, -, rfl⟩ <;> omega
    cases hc : cmd T n p with
    | inl e =>
      rw [rd_l hc] at h7
      cases h7
    | inr y =>
      obtain ⟨q, op, a1, v1, oc⟩ := y
      obtain ⟨c1, c2, c3⟩ := cmd_ok hc
      rw [rd_r hc] at h7
      obtain ⟨a', v', c', e1, g1, g2, g3⟩ := k_cmd1 h hX (by omega) hc o a v c
      obtain ⟨tot, t, f', F', m', w', z', FA', FP', Fs', Fp', Fe', Fm', d1, d2, d3⟩ := perform_sim hz hB1 c3 g1 g2 g3 f F m w FA FP Fs Fp Fe Fm
      have hr := r_cmd1 (s := s) (f := f) (P := F) (m := m) (w := w) (eb := eb) h (by omega) hc
      rw [d1, bn_s] at hr
      have hk : m_X6_runText_44 X (nI n) (j1 + 1) (nI P) o a v c z.1 z.2.1 z.2.2.1 z.2.2.2.1 z.2.2.2.2.1 z.2.2.2.2.2.1 z.2.2.2.2.2.2.1 z.2.2.2.2.2.2.2.1 z.2.2.2.2.2.2.2.2.1 z.2.2.2.2.2.2.2.2.2.1 z.2.2.2.2.2.2.2.2.2.2.1 z.2.2.2.2.2.2.2.2.2.2.2.1 z.2.2.2.2.2.2.2.2.2.2.2.2.1 z.2.2.2.2.2.2.2.2.2.2.2.2.2.1 z.2.2.2.2.2.2.2.2.2.2.2.2.2.2.1 z.2.2.2.2.2.2.2.2.2.2.2.2.2.2.2.1 z.2.2.2.2.2.2.2.2.2.2.2.2.2.2.2.2.1 z.2.2.2.2.2.2.2.2.2.2.2.2.2.2.2.2.2.1 z.2.2.2.2.2.2.2.2.2.2.2.2.2.2.2.2.2.2.1 z.2.2.2.2.2.2.2.2.2.2.2.2.2.2.2.2.2.2.2.1 z.2.2.2.2.2.2.2.2.2.2.2.2.2.2.2.2.2.2.2.2.1 z.2.2.2.2.2.2.2.2.2.2.2.2.2.2.2.2.2.2.2.2.2.1 z.2.2.2.2.2.2.2.2.2.2.2.2.2.2.2.2.2.2.2.2.2.2 FA FP Fs Fp Fe Fm H od si x1 (nI cn) = m_X6_runText_44 X (nI n) j1 (nI q) (nI op) a' v' c' z'.1 z'.2.1 z'.2.2.1 z'.2.2.2.1 z'.2.2.2.2.1 z'.2.2.2.2.2.1 z'.2.2.2.2.2.2.1 z'.2.2.2.2.2.2.2.1 z'.2.2.2.2.2.2.2.2.1 z'.2.2.2.2.2.2.2.2.2.1 z'.2.2.2.2.2.2.2.2.2.2.1 z'.2.2.2.2.2.2.2.2.2.2.2.1 z'.2.2.2.2.2.2.2.2.2.2.2.2.1 z'.2.2.2.2.2.2.2.2.2.2.2.2.2.1 z'.2.2.2.2.2.2.2.2.2.2.2.2.2.2.1 z'.2.2.2.2.2.2.2.2.2.2.2.2.2.2.2.1 z'.2.2.2.2.2.2.2.2.2.2.2.2.2.2.2.2.1 z'.2.2.2.2.2.2.2.2.2.2.2.2.2.2.2.2.2.1 z'.2.2.2.2.2.2.2.2.2.2.2.2.2.2.2.2.2.2.1 z'.2.2.2.2.2.2.2.2.2.2.2.2.2.2.2.2.2.2.2.1 z'.2.2.2.2.2.2.2.2.2.2.2.2.2.2.2.2.2.2.2.2.1 z'.2.2.2.2.2.2.2.2.2.2.2.2.2.2.2.2.2.2.2.2.2.1 z'.2.2.2.2.2.2.2.2.2.2.2.2.2.2.2.2.2.2.2.2.2.2 FA' FP' Fs' Fp' Fe' Fm' H od si (x1 + tot) (nI (cn - 1)) := by
        rw [m_X6_runText_44, if_neg (show ¬ nI cn ≤ 0 by rw [leN0 (by omega)]; omega), k_next1 h hX hP hN, e1, bn_s]
        dsimp only
        rw [if_neg (show ¬ (1 : Int32) = 0 by decide), d3, bn_s, bdE, bdE, addm1 (by omega)]
      have hr2 : m_X7_reads_17 T (nI n) 1 (j2 + 1 + 1) s f F m w (nI p) 0 eb 1 = if n ≤ q then some (t, f', F', m', w', nI q, 0, eb + tot) else if chr T n q = 59 then m_X7_reads_17 T (nI n) 1 (j2 + 1) t f' F' m' w' (nI (q + 1)) 0 (eb + tot) 1 else some (t, f', F', m', w', nI q, 1, eb + tot) := by
        rw [m_X7_reads_17, if_neg (by decide), hr, bn_s]
        dsimp only
        rw [if_pos rfl]
        by_cases d : n ≤ q
        · rw [if_pos (leN_t (by omega) d), if_pos d]
          unfold m_X7_reads_48 m_X7_reads_49
          rw [if_pos rfl, r_rd_end]
        · rw [if_neg (leN_f (by omega) (by omega)), if_neg d, r_rd_49 h (by omega)]
      dsimp only at h7
      rw [hk, hr2]
      by_cases d : n ≤ q
      · have e : q = n := by omega
        rw [if_pos d]
        obtain ⟨j1, rfl⟩ : ∃ y, j1 = y + 1 := ⟨j1 - 1, by omega⟩
        have hk2 : ∃ P' o2 a2 v2 c2, m_X6_runText_44 X (nI n) (j1 + 1) (nI q) (nI op) a' v' c' z'.1 z'.2.1 z'.2.2.1 z'.2.2.2.1 z'.2.2.2.2.1 z'.2.2.2.2.2.1 z'.2.2.2.2.2.2.1 z'.2.2.2.2.2.2.2.1 z'.2.2.2.2.2.2.2.2.1 z'.2.2.2.2.2.2.2.2.2.1 z'.2.2.2.2.2.2.2.2.2.2.1 z'.2.2.2.2.2.2.2.2.2.2.2.1 z'.2.2.2.2.2.2.2.2.2.2.2.2.1 z'.2.2.2.2.2.2.2.2.2.2.2.2.2.1 z'.2.2.2.2.2.2.2.2.2.2.2.2.2.2.1 z'.2.2.2.2.2.2.2.2.2.2.2.2.2.2.2.1 z'.2.2.2.2.2.2.2.2.2.2.2.2.2.2.2.2.1 z'.2.2.2.2.2.2.2.2.2.2.2.2.2.2.2.2.2.1 z'.2.2.2.2.2.2.2.2.2.2.2.2.2.2.2.2.2.2.1 z'.2.2.2.2.2.2.2.2.2.2.2.2.2.2.2.2.2.2.2.1 z'.2.2.2.2.2.2.2.2.2.2.2.2.2.2.2.2.2.2.2.2.1 z'.2.2.2.2.2.2.2.2.2.2.2.2.2.2.2.2.2.2.2.2.2.1 z'.2.2.2.2.2.2.2.2.2.2.2.2.2.2.2.2.2.2.2.2.2.2 FA' FP' Fs' Fp' Fe' Fm' H od si (x1 + tot) (nI (cn - 1)) = some ((0 : Nat), x1 + tot, P', o2, a2, v2, c2, z'.1, z'.2.1, z'.2.2.1, z'.2.2.2.1, z'.2.2.2.2.1, z'.2.2.2.2.2.1, z'.2.2.2.2.2.2.1, z'.2.2.2.2.2.2.2.1, z'.2.2.2.2.2.2.2.2.1, z'.2.2.2.2.2.2.2.2.2.1, z'.2.2.2.2.2.2.2.2.2.2.1, z'.2.2.2.2.2.2.2.2.2.2.2.1, z'.2.2.2.2.2.2.2.2.2.2.2.2.1, z'.2.2.2.2.2.2.2.2.2.2.2.2.2.1, z'.2.2.2.2.2.2.2.2.2.2.2.2.2.2.1, z'.2.2.2.2.2.2.2.2.2.2.2.2.2.2.2.1, z'.2.2.2.2.2.2.2.2.2.2.2.2.2.2.2.2.1, z'.2.2.2.2.2.2.2.2.2.2.2.2.2.2.2.2.2.1, z'.2.2.2.2.2.2.2.2.2.2.2.2.2.2.2.2.2.2.1, z'.2.2.2.2.2.2.2.2.2.2.2.2.2.2.2.2.2.2.2.1, z'.2.2.2.2.2.2.2.2.2.2.2.2.2.2.2.2.2.2.2.2.1, z'.2.2.2.2.2.2.2.2.2.2.2.2.2.2.2.2.2.2.2.2.2.1, z'.2.2.2.2.2.2.2.2.2.2.2.2.2.2.2.2.2.2.2.2.2.2, FA', FP', Fs', Fp', Fe', Fm', H, od, si) := by
          rw [m_X6_runText_44]
          unfold m_X6_runText_71
          by_cases d3 : nI (cn - 1) ≤ 0
          · rw [if_pos d3]
            exact ⟨_, _, _, _, _, rfl⟩
          · rw [if_neg d3, k_next0 h hX (by omega) (by omega) (by rw [chr_out (by omega)]; omega), bn_s]
            dsimp only
            rw [if_pos rfl]
            exact ⟨_, _, _, _, _, rfl⟩
        obtain ⟨P', o2, a2, v2, c2, hk2⟩ := hk2
        exact ⟨tot, t, f', F', m', w', nI q, z', P', o2, a2, v2, c2, FA', FP', Fs', Fp', Fe', Fm', rfl, ⟨FRl_mono (by omega) d2.1, d2.2⟩, hk2⟩
      · rw [if_neg d] at h7
        rw [if_neg d]
        by_cases d3 : chr T n q = 59
        · rw [if_pos d3] at h7
          rw [if_pos d3]
          obtain ⟨tot2, t2, f2, F2, m2, w2, sp2, z2, P2, o2, a2, v2, c2, FA2, FP2, Fs2, Fp2, Fe2, Fm2, b1, b2, b3⟩ := ih (q + 1) q j1 (j2 + 1) (cn - 1) t f' F' m' w' (eb + tot) z' (B + 891) (nI op) a' v' c' FA' FP' Fs' Fp' Fe' Fm' (x1 + tot) (Or.inr ⟨by omega, d3, rfl⟩) (by omega) (by omega) (by omega) (by omega) (by omega) (by omega) h7 d2 (by omega)
          rw [Int32.add_assoc] at b1 b3
          exact ⟨tot + tot2, t2, f2, F2, m2, w2, sp2, z2, P2, o2, a2, v2, c2, FA2, FP2, Fs2, Fp2, Fe2, Fm2, b1, ⟨FRl_mono (by omega) b2.1, b2.2⟩, b3⟩
        · rw [if_neg d3] at h7
          cases h7
