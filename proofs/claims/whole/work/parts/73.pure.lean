-- ===== 73: a run, both sides =====
theorem run_loop {kd tg oc ln : Nat → Int32} {c : Nat} (hc : c < 1000) : ∀ k i n1 n2 (s : Nat → Int32) (A0 P0 : Nat → Int32) (m0 w0 x2 x3 : Int32) (pn tm ft xe th ms fl lf : Int32) (row : Nat → Int32) (M : Nat → Nat → Int32) (sz us : Nat → Int32) (lu pu re : Int32) (ct cn : Nat → Int32) (nx : Int32) (FA0 FP0 : Nat → Int32) (Fs Fp Fe Fm : Int32) (B : Nat), i + k = c → k < n1 → k < n2 → FRl s kd tg oc ln pn tm ft xe th ms fl lf row M sz us lu pu re ct cn nx B → B + 9 * k < 2147483648 →
    ∃ tot t A P m w pn' tm' ft' th' ms' fl' lf' row' M' sz' us' lu' pu' re' ct' cn' nx' FA' FP' Fs' Fp' Fe' Fm', m_X7_runs_4 (nI c) n1 s A0 P0 m0 w0 x2 (nI i) = some (x2 + tot, t, A, P, m, w) ∧ FRl t kd tg oc ln pn' tm' ft' (xe + tot) th' ms' fl' lf' row' M' sz' us' lu' pu' re' ct' cn' nx' (B + 9 * k) ∧ t 388 = s 388 ∧ (∀ b, b < 48 → t (6 * b) = s (6 * b)) ∧
    m_X3_runFetches_8 kd tg oc ln (nI c) n2 pn tm ft xe th ms fl lf row M sz us lu pu re ct cn nx FA0 FP0 Fs Fp Fe Fm x3 (nI i) = some (xe + tot - x3, pn', tm', ft', xe + tot, th', ms', fl', lf', row', M', sz', us', lu', pu', re', ct', cn', nx', FA', FP', Fs', Fp', Fe', Fm') := by
  intro k
  induction k with
  | zero =>
    intro i n1 n2 s A0 P0 m0 w0 x2 x3 pn tm ft xe th ms fl lf row M sz us lu pu re ct cn nx FA0 FP0 Fs Fp Fe Fm B hi h1 h2 h hB
    obtain ⟨n1, rfl⟩ : ∃ z, n1 = z + 1 := ⟨n1 - 1, by omega⟩
    obtain ⟨n2, rfl⟩ : ∃ z, n2 = z + 1 := ⟨n2 - 1, by omega⟩
    refine ⟨0, s, A0, P0, m0, w0, pn, tm, ft, th, ms, fl, lf, row, M, sz, us, lu, pu, re, ct, cn, nx, FA0, FP0, Fs, Fp, Fe, Fm, ?_, by rw [Int32.add_zero]; exact h, rfl, fun _ _ => rfl, ?_⟩
    · rw [m_X7_runs_4, if_pos (leN_t (by omega) (by omega)), Int32.add_zero]
    · rw [m_X3_runFetches_8, if_pos (leN_t (by omega) (by omega)), bdE, Int32.add_zero]
  | succ k ih =>
    intro i n1 n2 s A0 P0 m0 w0 x2 x3 pn tm ft xe th ms fl lf row M sz us lu pu re ct cn nx FA0 FP0 Fs Fp Fe Fm B hi h1 h2 h hB
    obtain ⟨n1, rfl⟩ : ∃ z, n1 = z + 1 := ⟨n1 - 1, by omega⟩
    obtain ⟨n2, rfl⟩ : ∃ z, n2 = z + 1 := ⟨n2 - 1, by omega⟩
    obtain ⟨e, t, A, P, m, w, pn', tm', ft', th', ms', fl', lf', row', M', sz', us', lu', pu', re', ct', cn', nx', FA', FP', Fs', Fp', Fe', Fm', a1, a2, a3, a4, a5⟩ := fetch_sim h (by omega) A0 P0 m0 w0 FA0 FP0 Fs Fp Fe Fm
    obtain ⟨tot, t2, A2, P2, m2, w2, pn2, tm2, ft2, th2, ms2, fl2, lf2, row2, M2, sz2, us2, lu2, pu2, re2, ct2, cn2, nx2, FA2, FP2, Fs2, Fp2, Fe2, Fm2, b1, b2, b3, b4, b5⟩ := ih (i + 1) n1 n2 t A P m w (x2 + nI e) x3 pn' tm' ft' (xe + nI e) th' ms' fl' lf' row' M' sz' us' lu' pu' re' ct' cn' nx' FA' FP' Fs' Fp' Fe' Fm' (B + 9) (by omega) (by omega) (by omega) a2 (by omega)
    have e1 : xe + nI e + tot = xe + (nI e + tot) := Int32.add_assoc _ _ _
    have e2 : x2 + nI e + tot = x2 + (nI e + tot) := Int32.add_assoc _ _ _
    have e3 : B + 9 + 9 * k = B + 9 * (k + 1) := by omega
    have hn : ¬ nI c ≤ nI i := leN_f (by omega) (by omega)
    rw [e1] at b2 b5
    rw [e2] at b1
    rw [e3] at b2
    refine ⟨nI e + tot, t2, A2, P2, m2, w2, pn2, tm2, ft2, th2, ms2, fl2, lf2, row2, M2, sz2, us2, lu2, pu2, re2, ct2, cn2, nx2, FA2, FP2, Fs2, Fp2, Fe2, Fm2, ?_, b2, b3.trans a3, fun b hb => (b4 b hb).trans (a4 b hb), ?_⟩
    · rw [m_X7_runs_4, if_neg hn, a1, bn_s, bdE, bdE, nI1]
      exact b1
    · rw [a5 _ n2 x3 (nI i) hn, nI1]
      exact b5
theorem run_sim {s kd tg oc ln : Nat → Int32} {pn tm ft xe th ms fl lf : Int32} {row : Nat → Int32} {M : Nat → Nat → Int32} {sz us : Nat → Int32} {lu pu re : Int32} {ct cn : Nat → Int32} {nx : Int32} {B c : Nat} (h : FRl s kd tg oc ln pn tm ft xe th ms fl lf row M sz us lu pu re ct cn nx B) (hc : c ≤ 99) (hB : B + 9 * c < 2147483648) (A0 P0 : Nat → Int32) (m0 w0 : Int32) (FA0 FP0 : Nat → Int32) (Fs Fp Fe Fm : Int32) :
    ∃ tot t A P m w pn' tm' ft' th' ms' fl' lf' row' M' sz' us' lu' pu' re' ct' cn' nx' FA' FP' Fs' Fp' Fe' Fm', m_X7_runs s A0 P0 m0 w0 (nI c) = some (tot, t, A, P, m, w) ∧ FRl t kd tg oc ln pn' tm' ft' (xe + tot) th' ms' fl' lf' row' M' sz' us' lu' pu' re' ct' cn' nx' (B + 9 * c) ∧ t 388 = s 388 ∧ (∀ b, b < 48 → t (6 * b) = s (6 * b)) ∧
    m_X3_runFetches kd tg oc ln pn tm ft xe th ms fl lf row M sz us lu pu re ct cn nx FA0 FP0 Fs Fp Fe Fm (nI c) = some (tot, pn', tm', ft', xe + tot, th', ms', fl', lf', row', M', sz', us', lu', pu', re', ct', cn', nx', FA', FP', Fs', Fp', Fe', Fm') := by
  obtain ⟨tot, t, A, P, m, w, pn', tm', ft', th', ms', fl', lf', row', M', sz', us', lu', pu', re', ct', cn', nx', FA', FP', Fs', Fp', Fe', Fm', a1, a2, a3, a4, a5⟩ := run_loop (c := c) (by omega) c 0 4000 4000 s A0 P0 m0 w0 0 xe pn tm ft xe th ms fl lf row M sz us lu pu re ct cn nx FA0 FP0 Fs Fp Fe Fm B (by omega) (by omega) (by omega) h (by omega)
  have e1 : xe + tot - xe = tot := by rw [Int32.add_comm, Int32.add_sub_cancel]
  have e2 : (0 : Int32) + tot = tot := Int32.zero_add tot
  rw [e1] at a5
  rw [e2] at a1
  exact ⟨tot, t, A, P, m, w, pn', tm', ft', th', ms', fl', lf', row', M', sz', us', lu', pu', re', ct', cn', nx', FA', FP', Fs', Fp', Fe', Fm', a1, a2, a3, a4, a5⟩
