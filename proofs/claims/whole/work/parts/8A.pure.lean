-- ===== 8A: a command done, both sides =====
theorem FRl_mono {s kd tg oc ln : Nat → Int32} {pn tm ft xe th ms fl lf : Int32} {row : Nat → Int32} {M : Nat → Nat → Int32} {sz us : Nat → Int32} {lu pu re : Int32} {ct cn : Nat → Int32} {nx : Int32} {B B' : Nat} (hB : B ≤ B') (h : FRl s kd tg oc ln pn tm ft xe th ms fl lf row M sz us lu pu re ct cn nx B) : FRl s kd tg oc ln pn tm ft xe th ms fl lf row M sz us lu pu re ct cn nx B' := ⟨h.1, h.2.1, MR_mono hB h.2.2.1, h.2.2.2⟩
def OPS (op a : Nat) (v : Int32) (oc : Nat) : Prop := a < 48 ∧ ((op = 114 ∧ ∃ c, 1 ≤ c ∧ c ≤ 99 ∧ v = nI c) ∨ (op = 112 ∧ 1 ≤ oc ∧ oc ≤ 8) ∨ (op = 46 ∧ v = 0) ∨ ((op = 98 ∨ op = 106) ∧ ∃ t, t < 48 ∧ v = nI t))
theorem perform_sim {s : Nat → Int32} {z : zMT} {B : Nat} (hz : RZ s z B) (hB : B + 891 < 2147483648) {op a : Nat} {v : Int32} {oc : Nat} (ho : OPS op a v oc) {a' v' c' : Int32} (g1 : op ≠ 114 → a' = nI a) (g2 : op ≠ 46 → v' = v) (g3 : op = 112 → c' = nI oc) (f F : Nat → Int32) (m w : Int32) (FA FP : Nat → Int32) (Fs Fp Fe Fm : Int32) :
    ∃ tot t f' F' m' w' z' FA' FP' Fs' Fp' Fe' Fm', rdo op a v oc s f F m w = some (tot, t, f', F', m', w') ∧ RZ t z' (B + 891) ∧
    m_X6_perform (nI op) a' v' c' z.1 z.2.1 z.2.2.1 z.2.2.2.1 z.2.2.2.2.1 z.2.2.2.2.2.1 z.2.2.2.2.2.2.1 z.2.2.2.2.2.2.2.1 z.2.2.2.2.2.2.2.2.1 z.2.2.2.2.2.2.2.2.2.1 z.2.2.2.2.2.2.2.2.2.2.1 z.2.2.2.2.2.2.2.2.2.2.2.1 z.2.2.2.2.2.2.2.2.2.2.2.2.1 z.2.2.2.2.2.2.2.2.2.2.2.2.2.1 z.2.2.2.2.2.2.2.2.2.2.2.2.2.2.1 z.2.2.2.2.2.2.2.2.2.2.2.2.2.2.2.1 z.2.2.2.2.2.2.2.2.2.2.2.2.2.2.2.2.1 z.2.2.2.2.2.2.2.2.2.2.2.2.2.2.2.2.2.1 z.2.2.2.2.2.2.2.2.2.2.2.2.2.2.2.2.2.2.1 z.2.2.2.2.2.2.2.2.2.2.2.2.2.2.2.2.2.2.2.1 z.2.2.2.2.2.2.2.2.2.2.2.2.2.2.2.2.2.2.2.2.1 z.2.2.2.2.2.2.2.2.2.2.2.2.2.2.2.2.2.2.2.2.2.1 z.2.2.2.2.2.2.2.2.2.2.2.2.2.2.2.2.2.2.2.2.2.2 FA FP Fs Fp Fe Fm = some (tot, z'.1, z'.2.1, z'.2.2.1, z'.2.2.2.1, z'.2.2.2.2.1, z'.2.2.2.2.2.1, z'.2.2.2.2.2.2.1, z'.2.2.2.2.2.2.2.1, z'.2.2.2.2.2.2.2.2.1, z'.2.2.2.2.2.2.2.2.2.1, z'.2.2.2.2.2.2.2.2.2.2.1, z'.2.2.2.2.2.2.2.2.2.2.2.1, z'.2.2.2.2.2.2.2.2.2.2.2.2.1, z'.2.2.2.2.2.2.2.2.2.2.2.2.2.1, z'.2.2.2.2.2.2.2.2.2.2.2.2.2.2.1, z'.2.2.2.2.2.2.2.2.2.2.2.2.2.2.2.1, z'.2.2.2.2.2.2.2.2.2.2.2.2.2.2.2.2.1, z'.2.2.2.2.2.2.2.2.2.2.2.2.2.2.2.2.2.1, z'.2.2.2.2.2.2.2.2.2.2.2.2.2.2.2.2.2.2.1, z'.2.2.2.2.2.2.2.2.2.2.2.2.2.2.2.2.2.2.2.1, z'.2.2.2.2.2.2.2.2.2.2.2.2.2.2.2.2.2.2.2.2.1, z'.2.2.2.2.2.2.2.2.2.2.2.2.2.2.2.2.2.2.2.2.2.1, z'.2.2.2.2.2.2.2.2.2.2.2.2.2.2.2.2.2.2.2.2.2.2, FA', FP', Fs', Fp', Fe', Fm') := by
  obtain ⟨ha, ho⟩ := ho
  obtain ⟨pn, tm, ft, xe, th, ms, fl, lf, row, M, sz, us, lu, pu, re, dr, kd, tg, oc', ln, ct, cn, nx⟩ := z
  obtain ⟨hF, hd⟩ := hz
  have hd : dr = s 388 := hd
  have hF : FRl s kd tg oc' ln pn tm ft xe th ms fl lf row M sz us lu pu re ct cn nx B := hF
  rcases ho with ⟨rfl, c, hc1, hc2, rfl⟩ | ⟨rfl, l1, l8⟩ | ⟨rfl, rfl⟩ | ⟨ho, t0, ht, rfl⟩
  · have e2 := g2 (by decide)
    subst e2
    obtain ⟨tot, t, A, P, m', w', pn', tm', ft', th', ms', fl', lf', row', M', sz', us', lu', pu', re', ct', cn', nx', FA', FP', Fs', Fp', Fe', Fm', a1, a2, a3, a4, a5⟩ := run_sim hF hc2 (by omega) f F m w FA FP Fs Fp Fe Fm
    refine ⟨tot, t, A, P, m', w', (pn', tm', ft', xe + tot, th', ms', fl', lf', row', M', sz', us', lu', pu', re', dr, kd, tg, oc', ln, ct', cn', nx'), FA', FP', Fs', Fp', Fe', Fm', ?_, ⟨FRl_mono (by omega) a2, hd.trans a3.symm⟩, ?_⟩
    · unfold rdo
      rw [if_pos rfl]
      exact a1
    · unfold m_X6_perform
      rw [if_neg (show ¬ nI 114 = 98 by decide), if_neg (show ¬ nI 114 = 106 by decide), if_neg (show ¬ nI 114 = 112 by decide), if_pos (show nI 114 = 114 from rfl)]
      dsimp only
      rw [a5, bn_s]
  · have e1 := g1 (by decide)
    have e2 := g2 (by decide)
    have e3 := g3 rfl
    subst e1 e2 e3
    obtain ⟨x, T, a1, a2, a3, a4⟩ := pat_sim hF ha l1 l8 v'
    refine ⟨0, T, f, F, m, w, (pn, tm, ft, xe, th, ms, fl, lf, row, M, sz, us, lu, pu, re, dr, kd, tg, upd oc' a v', upd ln a (nI oc), upd ct a 0, cn, nx), FA, FP, Fs, Fp, Fe, Fm, ?_, ⟨FRl_mono (by omega) a3, hd.trans a4.symm⟩, ?_⟩
    · unfold rdo
      rw [if_neg (by decide), if_pos rfl, a1, bn_s]
    · unfold m_X6_perform
      rw [if_neg (show ¬ nI 112 = 98 by decide), if_neg (show ¬ nI 112 = 106 by decide), if_pos (show nI 112 = 112 from rfl)]
      dsimp only
      rw [a2, bn_s]
  · have e1 := g1 (by decide)
    subst e1
    obtain ⟨cnt, T, pn', sz', a1, a2, a3, a4⟩ := write_sim (dr := dr) (t := 0) hF ha (by omega) (x2 := 0) (Or.inl rfl)
    have a1 : m_X7_writes s (nI a) 0 0 = some (nI cnt, T) := a1
    have a2 : m_X3_put row M pn sz dr kd tg (nI a) 0 0 = some (nI cnt, pn', sz', dr + nI cnt, upd kd a 0, upd tg a 0) := a2
    refine ⟨0, T, f, F, m, w, (pn', tm, ft, xe, th, ms, fl, lf, row, M, sz', us, lu, pu, re, dr + nI cnt, upd kd a 0, upd tg a 0, oc', ln, ct, cn, nx), FA, FP, Fs, Fp, Fe, Fm, ?_, ⟨FRl_mono (by omega) a3, by rw [a4, ← hd]⟩, ?_⟩
    · unfold rdo
      rw [if_neg (by decide), if_neg (by decide), if_pos rfl, a1, bn_s]
    · unfold m_X6_perform
      rw [if_neg (show ¬ nI 46 = 98 by decide), if_neg (show ¬ nI 46 = 106 by decide), if_neg (show ¬ nI 46 = 112 by decide), if_neg (show ¬ nI 46 = 114 by decide)]
      dsimp only
      rw [a2, bn_s]
  · rcases ho with rfl | rfl
    · have e1 := g1 (by decide)
      have e2 := g2 (by decide)
      subst e1 e2
      obtain ⟨cnt, T, pn', sz', a1, a2, a3, a4⟩ := write_sim (dr := dr) (t := t0) hF ha ht (x2 := 2) (Or.inr (Or.inr rfl))
      refine ⟨0, T, f, F, m, w, (pn', tm, ft, xe, th, ms, fl, lf, row, M, sz', us, lu, pu, re, dr + nI cnt, upd kd a 2, upd tg a (nI t0), oc', ln, ct, cn, nx), FA, FP, Fs, Fp, Fe, Fm, ?_, ⟨FRl_mono (by omega) a3, by rw [a4, ← hd]⟩, ?_⟩
      · unfold rdo
        rw [if_neg (by decide), if_neg (by decide), if_neg (by decide), if_neg (by decide), a1, bn_s]
      · unfold m_X6_perform
        rw [if_pos (show nI 98 = 98 from rfl)]
        dsimp only
        rw [a2, bn_s]
    · have e1 := g1 (by decide)
      have e2 := g2 (by decide)
      subst e1 e2
      obtain ⟨cnt, T, pn', sz', a1, a2, a3, a4⟩ := write_sim (dr := dr) (t := t0) hF ha ht (x2 := 1) (Or.inr (Or.inl rfl))
      refine ⟨0, T, f, F, m, w, (pn', tm, ft, xe, th, ms, fl, lf, row, M, sz', us, lu, pu, re, dr + nI cnt, upd kd a 1, upd tg a (nI t0), oc', ln, ct, cn, nx), FA, FP, Fs, Fp, Fe, Fm, ?_, ⟨FRl_mono (by omega) a3, by rw [a4, ← hd]⟩, ?_⟩
      · unfold rdo
        rw [if_neg (by decide), if_neg (by decide), if_neg (by decide), if_pos rfl, a1, bn_s]
      · unfold m_X6_perform
        rw [if_neg (show ¬ nI 106 = 98 by decide), if_pos (show nI 106 = 106 from rfl)]
        dsimp only
        rw [a2, bn_s]
