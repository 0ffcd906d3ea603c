-- ===== 8G: the calls that change the state =====
theorem RZ_mk {s : Nat → Int32} {pn : Int32} {tm : Int32} {ft : Int32} {xe : Int32} {th : Int32} {ms : Int32} {fl : Int32} {lf : Int32} {row : Nat → Int32} {M : Nat → Nat → Int32} {sz : Nat → Int32} {us : Nat → Int32} {lu : Int32} {pu : Int32} {re : Int32} {dr : Int32} {kd : Nat → Int32} {tg : Nat → Int32} {oc : Nat → Int32} {ln : Nat → Int32} {ct : Nat → Int32} {cn : Nat → Int32} {nx : Int32} {B : Nat} (h : FRl s kd tg oc ln pn tm ft xe th ms fl lf row M sz us lu pu re ct cn nx B) (hd : dr = s 388) : RZ s (pn, tm, ft, xe, th, ms, fl, lf, row, M, sz, us, lu, pu, re, dr, kd, tg, oc, ln, ct, cn, nx) B := ⟨h, hd⟩
theorem RZ_FR {s : Nat → Int32} {pn : Int32} {tm : Int32} {ft : Int32} {xe : Int32} {th : Int32} {ms : Int32} {fl : Int32} {lf : Int32} {row : Nat → Int32} {M : Nat → Nat → Int32} {sz : Nat → Int32} {us : Nat → Int32} {lu : Int32} {pu : Int32} {re : Int32} {dr : Int32} {kd : Nat → Int32} {tg : Nat → Int32} {oc : Nat → Int32} {ln : Nat → Int32} {ct : Nat → Int32} {cn : Nat → Int32} {nx : Int32} {B : Nat} (h : RZ s (pn, tm, ft, xe, th, ms, fl, lf, row, M, sz, us, lu, pu, re, dr, kd, tg, oc, ln, ct, cn, nx) B) : FRl s kd tg oc ln pn tm ft xe th ms fl lf row M sz us lu pu re ct cn nx B ∧ dr = s 388 := h
theorem save_x {s : Nat → Int32} {pn : Int32} {tm : Int32} {ft : Int32} {xe : Int32} {th : Int32} {ms : Int32} {fl : Int32} {lf : Int32} {row : Nat → Int32} {M : Nat → Nat → Int32} {sz : Nat → Int32} {us : Nat → Int32} {lu : Int32} {pu : Int32} {re : Int32} {dr : Int32} {kd : Nat → Int32} {tg : Nat → Int32} {oc : Nat → Int32} {ln : Nat → Int32} {ct : Nat → Int32} {cn : Nat → Int32} {nx : Int32} {B : Nat} (hz : RZ s (pn, tm, ft, xe, th, ms, fl, lf, row, M, sz, us, lu, pu, re, dr, kd, tg, oc, ln, ct, cn, nx) B) {sv : Nat → Int32} {mn : Int32} {H : Nat → zMT} {od si : Int32} (hH : HR sv mn H od si B) : ∃ sv' mn' H' od' si', m_X7_save s sv mn = some (sv', mn') ∧ m_X2_save pn tm ft xe th ms fl lf row M sz us lu pu re dr kd tg oc ln ct cn nx H od si = some (H', od', si') ∧ HR sv' mn' H' od' si' B := save_sim hz hH
theorem write_case {s : Nat → Int32} {pn : Int32} {tm : Int32} {ft : Int32} {xe : Int32} {th : Int32} {ms : Int32} {fl : Int32} {lf : Int32} {row : Nat → Int32} {M : Nat → Nat → Int32} {sz : Nat → Int32} {us : Nat → Int32} {lu : Int32} {pu : Int32} {re : Int32} {dr : Int32} {kd : Nat → Int32} {tg : Nat → Int32} {oc : Nat → Int32} {ln : Nat → Int32} {ct : Nat → Int32} {cn : Nat → Int32} {nx : Int32} {B : Nat} (hz : RZ s (pn, tm, ft, xe, th, ms, fl, lf, row, M, sz, us, lu, pu, re, dr, kd, tg, oc, ln, ct, cn, nx) B) {sv : Nat → Int32} {mn : Int32} {H : Nat → zMT} {od si : Int32} (hH : HR sv mn H od si B) (O : Nat → Int64) (tw x1 x2 x3 : Int32) :
    ∃ k O' b pn' sz' dr' kd' tg' H' od' si' t sv' mn', m_L_write tm ft xe th ms fl lf row M us lu pu re oc ln ct cn nx O pn sz dr kd tg H od si x1 x2 x3 = some (k, O', pn', sz', dr', kd', tg', H', od', si') ∧ m_X7_write tw s sv mn x1 x2 x3 = some (b, k, t, sv', mn') ∧ (k = 0 → lg_cmp (O' (Int32.toNatClampNeg 0)) (Int32.toInt64 b) = 0) ∧ RZ t (pn', tm, ft, xe, th, ms, fl, lf, row, M, sz', us, lu, pu, re, dr', kd', tg', oc, ln, ct, cn, nx) B ∧ HR sv' mn' H' od' si' B := by
  obtain ⟨hF, hd⟩ := RZ_FR hz
  by_cases h1 : okA x1 = true
  · by_cases h3 : okA x3 = true
    · by_cases h2 : x2 = 0 ∨ x2 = 1 ∨ x2 = 2
      · obtain ⟨sv', mn', H', od', si', s1, s2, s3⟩ := save_x hz hH
        have q1 := k_reqA_t h1
        have q3 := k_reqA_t h3
        have p1 := r_isA_t h1
        have p3 := r_isA_t h3
        have p2 : m_X7_in x2 0 2 = some 1 := by rcases h2 with rfl | rfl | rfl <;> exact r_in_t (by decide) (by decide)
        obtain ⟨a, ha, rfl⟩ := okA_nI h1
        obtain ⟨t, ht, rfl⟩ := okA_nI h3
        obtain ⟨cnt, T, pn', sz', a1, a2, a3, a4⟩ := write_sim (dr := dr) hF ha ht h2
        have k1 : m_X6_write tm ft xe th ms fl lf row M us lu pu re oc ln ct cn nx pn sz dr kd tg H od si (nI a) x2 (nI t) = some (0, nI cnt, pn', sz', dr + nI cnt, upd kd a x2, upd tg a (nI t), H', od', si') := by
          unfold m_X6_write m_X6_write_32
          rw [q1, bn_s, if_pos rfl, q3, bn_s, if_pos rfl, s2, bn_s, a2, bn_s]
          rcases h2 with rfl | rfl | rfl
          · rw [if_pos rfl]
          · rw [if_neg (by first | decide | (dsimp only; decide)), if_pos rfl]
          · rw [if_neg (by first | decide | (dsimp only; decide)), if_neg (by first | decide | (dsimp only; decide)), if_pos rfl]
        refine ⟨0, vp_updL O (Int32.toNatClampNeg 0) (Int32.toInt64 (nI cnt)), nI cnt, pn', sz', dr + nI cnt, upd kd a x2, upd tg a (nI t), H', od', si', T, sv', mn', ?_, ?_, fun _ => O_ok, RZ_mk a3 (by rw [a4, ← hd]), s3⟩
        · unfold m_L_write
          rw [k1, bn_s, if_pos rfl, inb0_1, gd_s, bdE]
        · unfold m_X7_write m_X7_write_33
          rw [p1, bn_s, if_neg (by first | decide | (dsimp only; decide)), p3, bn_s, if_neg (by first | decide | (dsimp only; decide)), p2, bn_s, if_neg (by first | decide | (dsimp only; decide)), r_holds0, bn_s, if_neg (by first | decide | (dsimp only; decide)), s1, bn_s, a1, bn_s]
      · have p2 : m_X7_in x2 0 2 = some 0 := r_in_f (fun g => h2 (by
          obtain ⟨c, -, hc, rfl⟩ := rng (lo := 0) (hi := 2) (by omega) (by omega) g.1 g.2
          rcases (show c = 0 ∨ c = 1 ∨ c = 2 by omega) with rfl | rfl | rfl
          · exact Or.inl rfl
          · exact Or.inr (Or.inl rfl)
          · exact Or.inr (Or.inr rfl)))
        refine ⟨2, O, 0, pn, sz, dr, kd, tg, H, od, si, s, sv, mn, ?_, ?_, fun g => by simp at g, hz, hH⟩
        · unfold m_L_write m_X6_write
          rw [k_reqA_t h1, bn_s, if_pos rfl, k_reqA_t h3, bn_s, if_pos rfl, if_neg (fun g => h2 (Or.inl g)), if_neg (fun g => h2 (Or.inr (Or.inl g))), if_neg (fun g => h2 (Or.inr (Or.inr g))), bn_s, if_neg (by first | decide | (dsimp only; decide)), if_neg (by first | decide | (dsimp only; decide)), if_pos rfl]
        · unfold m_X7_write m_X7_write_33
          rw [r_isA_t h1, bn_s, if_neg (by first | decide | (dsimp only; decide)), r_isA_t h3, bn_s, if_neg (by first | decide | (dsimp only; decide)), p2, bn_s, if_pos rfl, r_holds2, bn_s, if_pos rfl]
    · refine ⟨1, O, 0, pn, sz, dr, kd, tg, H, od, si, s, sv, mn, ?_, ?_, fun g => by simp at g, hz, hH⟩
      · unfold m_L_write m_X6_write
        rw [k_reqA_t h1, bn_s, if_pos rfl, k_reqA_f h3, bn_s, if_neg (by first | decide | (dsimp only; decide)), bn_s, if_neg (by first | decide | (dsimp only; decide)), if_pos rfl]
      · unfold m_X7_write m_X7_write_15 m_X7_write_33
        rw [r_isA_t h1, bn_s, if_neg (by first | decide | (dsimp only; decide)), r_isA_f h3, bn_s, if_pos rfl, r_holds1, bn_s, if_pos rfl]
  · refine ⟨1, O, 0, pn, sz, dr, kd, tg, H, od, si, s, sv, mn, ?_, ?_, fun g => by simp at g, hz, hH⟩
    · unfold m_L_write m_X6_write
      rw [k_reqA_f h1, bn_s, if_neg (by first | decide | (dsimp only; decide)), bn_s, if_neg (by first | decide | (dsimp only; decide)), if_pos rfl]
    · unfold m_X7_write m_X7_write_15 m_X7_write_33
      rw [r_isA_f h1, bn_s, if_pos rfl, r_holds1, bn_s, if_pos rfl]
theorem shl_l {l : Nat} (h1 : 1 ≤ l) (h8 : l ≤ 8) : ∃ N, 1 ≤ N ∧ N < 1000 ∧ (1 : Int32) <<< (nI l &&& 31) = nI N := by
  rcases (show l = 1 ∨ l = 2 ∨ l = 3 ∨ l = 4 ∨ l = 5 ∨ l = 6 ∨ l = 7 ∨ l = 8 by omega) with rfl | rfl | rfl | rfl | rfl | rfl | rfl | rfl
  · exact ⟨2, by omega, by omega, by decide⟩
  · exact ⟨4, by omega, by omega, by decide⟩
  · exact ⟨8, by omega, by omega, by decide⟩
  · exact ⟨16, by omega, by omega, by decide⟩
  · exact ⟨32, by omega, by omega, by decide⟩
  · exact ⟨64, by omega, by omega, by decide⟩
  · exact ⟨128, by omega, by omega, by decide⟩
  · exact ⟨256, by omega, by omega, by decide⟩
theorem lt_le {x : Int32} {N : Nat} (h1 : 1 ≤ N) (h2 : N < 1000) : (x < nI N) = (x ≤ nI N - 1) := by
  rw [sub1N h1, i32_lt, i32_le, nI_toInt (by omega), nI_toInt (by omega)]
  exact propext ⟨fun h => by omega, fun h => by omega⟩
theorem pattern_case {s : Nat → Int32} {pn : Int32} {tm : Int32} {ft : Int32} {xe : Int32} {th : Int32} {ms : Int32} {fl : Int32} {lf : Int32} {row : Nat → Int32} {M : Nat → Nat → Int32} {sz : Nat → Int32} {us : Nat → Int32} {lu : Int32} {pu : Int32} {re : Int32} {dr : Int32} {kd : Nat → Int32} {tg : Nat → Int32} {oc : Nat → Int32} {ln : Nat → Int32} {ct : Nat → Int32} {cn : Nat → Int32} {nx : Int32} {B : Nat} (hz : RZ s (pn, tm, ft, xe, th, ms, fl, lf, row, M, sz, us, lu, pu, re, dr, kd, tg, oc, ln, ct, cn, nx) B) {sv : Nat → Int32} {mn : Int32} {H : Nat → zMT} {od si : Int32} (hH : HR sv mn H od si B) (O : Nat → Int64) (tw x1 x2 x3 : Int32) :
    ∃ k O' b oc' ln' ct' H' od' si' t sv' mn', m_L_setPattern pn tm ft xe th ms fl lf row M sz us lu pu re dr kd tg cn nx O oc ln ct H od si x1 x2 x3 = some (k, O', oc', ln', ct', H', od', si') ∧ m_X7_setPattern tw s sv mn x1 x2 x3 = some (b, k, t, sv', mn') ∧ (k = 0 → lg_cmp (O' (Int32.toNatClampNeg 0)) (Int32.toInt64 b) = 0) ∧ RZ t (pn, tm, ft, xe, th, ms, fl, lf, row, M, sz, us, lu, pu, re, dr, kd, tg, oc', ln', ct', cn, nx) B ∧ HR sv' mn' H' od' si' B := by
  obtain ⟨hF, hd⟩ := RZ_FR hz
  by_cases h1 : okA x1 = true
  · by_cases h3 : 1 ≤ x3 ∧ x3 ≤ 8
    · have p3 := r_in_t h3.1 h3.2
      have g1 : ¬ x3 < 1 := by rw [i32_lt1]; exact not_not_intro h3.1
      have g2 := h3.2
      obtain ⟨l, l1, l8, rfl⟩ := rng (lo := 1) (hi := 8) (by omega) (by omega) h3.1 h3.2
      obtain ⟨N, n1, n2, hN⟩ := shl_l l1 l8
      have hlt := lt_le (x := x2) n1 n2
      by_cases h2 : 0 ≤ x2 ∧ x2 ≤ nI N - 1
      · have p2 := r_in_t h2.1 h2.2
        obtain ⟨sv', mn', H', od', si', s1, s2, s3⟩ := save_x hz hH
        have q1 := k_reqA_t h1
        have p1 := r_isA_t h1
        obtain ⟨a, ha, rfl⟩ := okA_nI h1
        obtain ⟨v, T, a1, a2, a3, a4⟩ := pat_sim hF ha l1 l8 x2
        have k1 : m_X6_setPattern pn tm ft xe th ms fl lf row M sz us lu pu re dr kd tg cn nx oc ln ct H od si (nI a) x2 (nI l) = some (0, v, upd oc a x2, upd ln a (nI l), upd ct a 0, H', od', si') := by
          unfold m_X6_setPattern
          rw [q1, bn_s, if_pos rfl, if_neg g1, if_pos g2, if_neg (show ¬ x2 < 0 by rw [i32_lt0]; exact not_not_intro h2.1), hN, if_pos (by rw [hlt]; exact h2.2), s2, bn_s, a2, bn_s]
        refine ⟨0, vp_updL O (Int32.toNatClampNeg 0) (Int32.toInt64 v), v, upd oc a x2, upd ln a (nI l), upd ct a 0, H', od', si', T, sv', mn', ?_, ?_, fun _ => O_ok, RZ_mk a3 (by rw [a4, ← hd]), s3⟩
        · unfold m_L_setPattern
          rw [k1, bn_s, if_pos rfl, inb0_1, gd_s, bdE]
        · unfold m_X7_setPattern m_X7_setPattern_28 m_X7_setPattern_52
          rw [p3, bn_s, if_neg (by first | decide | (dsimp only; decide)), hN, p2, bn_s, if_neg (by first | decide | (dsimp only; decide)), p1, bn_s, if_neg (by first | decide | (dsimp only; decide)), if_neg (by first | decide | (dsimp only; decide)), r_holds0, bn_s, if_neg (by first | decide | (dsimp only; decide)), s1, bn_s, a1, bn_s]
      · have k1 : m_X6_setPattern pn tm ft xe th ms fl lf row M sz us lu pu re dr kd tg cn nx oc ln ct H od si x1 x2 (nI l) = some (2, 0, oc, ln, ct, H, od, si) := by
          unfold m_X6_setPattern m_X6_setPattern_36
          rw [k_reqA_t h1, bn_s, if_pos rfl, if_neg g1, if_pos g2, hN]
          by_cases g : 0 ≤ x2
          · rw [if_neg (show ¬ x2 < 0 by rw [i32_lt0]; exact not_not_intro g), if_neg (by rw [hlt]; exact fun g' => h2 ⟨g, g'⟩)]
          · rw [if_pos (show x2 < 0 by rw [i32_lt0]; exact g)]
        refine ⟨2, O, 0, oc, ln, ct, H, od, si, s, sv, mn, ?_, ?_, fun g => by simp at g, hz, hH⟩
        · unfold m_L_setPattern
          rw [k1, bn_s, if_neg (by first | decide | (dsimp only; decide)), if_neg (by first | decide | (dsimp only; decide)), if_pos rfl]
        · unfold m_X7_setPattern m_X7_setPattern_27 m_X7_setPattern_28 m_X7_setPattern_52
          rw [p3, bn_s, if_neg (by first | decide | (dsimp only; decide)), hN, r_in_f h2, bn_s, if_pos rfl, r_isA_t h1, bn_s, if_neg (by first | decide | (dsimp only; decide)), if_pos rfl, r_holds2, bn_s, if_pos rfl]
    · have k1 : m_X6_setPattern pn tm ft xe th ms fl lf row M sz us lu pu re dr kd tg cn nx oc ln ct H od si x1 x2 x3 = some (2, 0, oc, ln, ct, H, od, si) := by
        unfold m_X6_setPattern m_X6_setPattern_15
        rw [k_reqA_t h1, bn_s, if_pos rfl]
        by_cases g : 1 ≤ x3
        · rw [if_neg (show ¬ x3 < 1 by rw [i32_lt1]; exact not_not_intro g), if_neg (fun g' => h3 ⟨g, g'⟩)]
        · rw [if_pos (show x3 < 1 by rw [i32_lt1]; exact g)]
      refine ⟨2, O, 0, oc, ln, ct, H, od, si, s, sv, mn, ?_, ?_, fun g => by simp at g, hz, hH⟩
      · unfold m_L_setPattern
        rw [k1, bn_s, if_neg (by first | decide | (dsimp only; decide)), if_neg (by first | decide | (dsimp only; decide)), if_pos rfl]
      · unfold m_X7_setPattern m_X7_setPattern_27 m_X7_setPattern_28 m_X7_setPattern_52
        rw [r_in_f h3, bn_s, if_pos rfl, r_isA_t h1, bn_s, if_neg (by first | decide | (dsimp only; decide)), if_pos rfl, r_holds2, bn_s, if_pos rfl]
  · have r28 : ∀ k0, m_X7_setPattern_28 x1 x2 x3 tw s sv mn k0 = some (0, 1, s, sv, mn) := by
      intro k0
      unfold m_X7_setPattern_28 m_X7_setPattern_52
      rw [r_isA_f h1, bn_s, if_pos rfl, r_holds1, bn_s, if_pos rfl]
    refine ⟨1, O, 0, oc, ln, ct, H, od, si, s, sv, mn, ?_, ?_, fun g => by simp at g, hz, hH⟩
    · unfold m_L_setPattern m_X6_setPattern
      rw [k_reqA_f h1, bn_s, if_neg (by first | decide | (dsimp only; decide)), bn_s, if_neg (by first | decide | (dsimp only; decide)), if_pos rfl]
    · unfold m_X7_setPattern m_X7_setPattern_27
      rw [r28, r28]
      rw [r_in, bn_s]
      by_cases g : b2i (decide (1 ≤ x3) && decide (x3 ≤ 8)) = 0
      · rw [if_pos g]
      · rw [if_neg g, r_in, bn_s]
        by_cases g' : b2i (decide (0 ≤ x2) && decide (x2 ≤ (1 <<< (x3 &&& 31)) - 1)) = 0
        · rw [if_pos g']
        · rw [if_neg g']
theorem jump_case {s : Nat → Int32} {pn : Int32} {tm : Int32} {ft : Int32} {xe : Int32} {th : Int32} {ms : Int32} {fl : Int32} {lf : Int32} {row : Nat → Int32} {M : Nat → Nat → Int32} {sz : Nat → Int32} {us : Nat → Int32} {lu : Int32} {pu : Int32} {re : Int32} {dr : Int32} {kd : Nat → Int32} {tg : Nat → Int32} {oc : Nat → Int32} {ln : Nat → Int32} {ct : Nat → Int32} {cn : Nat → Int32} {nx : Int32} {B : Nat} (hz : RZ s (pn, tm, ft, xe, th, ms, fl, lf, row, M, sz, us, lu, pu, re, dr, kd, tg, oc, ln, ct, cn, nx) B) {sv : Nat → Int32} {mn : Int32} {H : Nat → zMT} {od si : Int32} (hH : HR sv mn H od si B) (O : Nat → Int64) (tw x1 : Int32) :
    ∃ k O' b pn' nx' H' od' si' t sv' mn', m_L_jumpTo tm ft xe th ms fl lf row M sz us lu pu re dr kd tg oc ln ct cn O pn nx H od si x1 = some (k, O', pn', nx', H', od', si') ∧ m_X7_jumpTo tw s sv mn x1 = some (b, k, t, sv', mn') ∧ (k = 0 → lg_cmp (O' (Int32.toNatClampNeg 0)) (Int32.toInt64 b) = 0) ∧ RZ t (pn', tm, ft, xe, th, ms, fl, lf, row, M, sz, us, lu, pu, re, dr, kd, tg, oc, ln, ct, cn, nx') B ∧ HR sv' mn' H' od' si' B := by
  obtain ⟨hF, hd⟩ := RZ_FR hz
  by_cases h1 : okA x1 = true
  · obtain ⟨sv', mn', H', od', si', s1, s2, s3⟩ := save_x hz hH
    have q1 := k_reqA_t h1
    have p1 := r_isA_t h1
    obtain ⟨a, ha, rfl⟩ := okA_nI h1
    obtain ⟨a1, a2, a3⟩ := jump_sim hF ha
    refine ⟨0, vp_updL O (Int32.toNatClampNeg 0) (Int32.toInt64 nx), nx, 0, nI a, H', od', si', upd (upd s 288 (nI a)) 369 0, sv', mn', ?_, ?_, fun _ => O_ok, RZ_mk a1 (by rw [a2, ← hd]), s3⟩
    · unfold m_L_jumpTo m_X6_jumpTo m_X3_moveTo
      rw [q1, bn_s, if_pos rfl, s2, bn_s, bn_s, bn_s, if_pos rfl, inb0_1, gd_s, bdE]
    · unfold m_X7_jumpTo m_X7_jumpTo_13
      rw [p1, bn_s, if_neg (by first | decide | (dsimp only; decide)), r_holds0, bn_s, if_neg (by first | decide | (dsimp only; decide)), s1, bn_s, inb288, gd_s, bdE, gd_s, bdE, inb369, gd_s, bdE, cl288, cl369, a3]
  · refine ⟨1, O, 0, pn, nx, H, od, si, s, sv, mn, ?_, ?_, fun g => by simp at g, hz, hH⟩
    · unfold m_L_jumpTo m_X6_jumpTo
      rw [k_reqA_f h1, bn_s, if_neg (by first | decide | (dsimp only; decide)), bn_s, if_neg (by first | decide | (dsimp only; decide)), if_pos rfl]
    · unfold m_X7_jumpTo m_X7_jumpTo_13
      rw [r_isA_f h1, bn_s, if_pos rfl, r_holds1, bn_s, if_pos rfl]
theorem run_case {s : Nat → Int32} {pn : Int32} {tm : Int32} {ft : Int32} {xe : Int32} {th : Int32} {ms : Int32} {fl : Int32} {lf : Int32} {row : Nat → Int32} {M : Nat → Nat → Int32} {sz : Nat → Int32} {us : Nat → Int32} {lu : Int32} {pu : Int32} {re : Int32} {dr : Int32} {kd : Nat → Int32} {tg : Nat → Int32} {oc : Nat → Int32} {ln : Nat → Int32} {ct : Nat → Int32} {cn : Nat → Int32} {nx : Int32} {B : Nat} (hz : RZ s (pn, tm, ft, xe, th, ms, fl, lf, row, M, sz, us, lu, pu, re, dr, kd, tg, oc, ln, ct, cn, nx) B) {sv : Nat → Int32} {mn : Int32} {H : Nat → zMT} {od si : Int32} (hH : HR sv mn H od si B) (hB : B + 891 < 2147483648) (O : Nat → Int64) (FA FP : Nat → Int32) (Fs Fp Fe Fm : Int32) (tw : Int32) (f F : Nat → Int32) (m w : Int32) (x1 : Int32) :
    ∃ k O' b pn' tm' ft' xe' th' ms' fl' lf' row' M' sz' us' lu' pu' re' ct' cn' nx' FA' FP' Fs' Fp' Fe' Fm' H' od' si' t sv' mn' f' F' m' w', m_L_run dr kd tg oc ln O pn tm ft xe th ms fl lf row M sz us lu pu re ct cn nx FA FP Fs Fp Fe Fm H od si x1 = some (k, O', pn', tm', ft', xe', th', ms', fl', lf', row', M', sz', us', lu', pu', re', ct', cn', nx', FA', FP', Fs', Fp', Fe', Fm', H', od', si') ∧ m_X7_run tw s sv mn f F m w x1 = some (b, k, t, sv', mn', f', F', m', w') ∧ (k = 0 → lg_cmp (O' (Int32.toNatClampNeg 0)) (Int32.toInt64 b) = 0) ∧ RZ t (pn', tm', ft', xe', th', ms', fl', lf', row', M', sz', us', lu', pu', re', dr, kd, tg, oc, ln, ct', cn', nx') (B + 891) ∧ HR sv' mn' H' od' si' (B + 891) := by
  obtain ⟨hF, hd⟩ := RZ_FR hz
  by_cases h1 : 1 ≤ x1 ∧ x1 ≤ 99
  · have p1 := r_in_t h1.1 h1.2
    have g1 : ¬ x1 < 1 := by rw [i32_lt1]; exact not_not_intro h1.1
    have g2 := h1.2
    obtain ⟨c, -, hc, rfl⟩ := rng (lo := 1) (hi := 99) (by omega) (by omega) h1.1 h1.2
    obtain ⟨sv', mn', H', od', si', s1, s2, s3⟩ := save_x hz hH
    obtain ⟨tot, t, A, P, m', w', pn', tm', ft', th', ms', fl', lf', row', M', sz', us', lu', pu', re', ct', cn', nx', FA', FP', Fs', Fp', Fe', Fm', a1, a2, a3, a4, a5⟩ := run_sim hF hc (by omega) f F m w FA FP Fs Fp Fe Fm
    refine ⟨0, vp_updL O (Int32.toNatClampNeg 0) (Int32.toInt64 tot), tot, pn', tm', ft', xe + tot, th', ms', fl', lf', row', M', sz', us', lu', pu', re', ct', cn', nx', FA', FP', Fs', Fp', Fe', Fm', H', od', si', t, sv', mn', A, P, m', w', ?_, ?_, fun _ => O_ok, RZ_mk (FRl_mono (by omega) a2) (by rw [a3, ← hd]), HR_mono (by omega) s3⟩
    · unfold m_L_run m_X6_run
      rw [if_neg g1, if_pos g2, s2, bn_s, a5, bn_s, bn_s, if_pos rfl, inb0_1, gd_s, bdE]
    · unfold m_X7_run m_X7_run_16
      rw [p1, bn_s, if_neg (by first | decide | (dsimp only; decide)), r_holds0, bn_s, if_neg (by first | decide | (dsimp only; decide)), s1, bn_s, a1, bn_s]
  · have k1 : m_X6_run dr kd tg oc ln pn tm ft xe th ms fl lf row M sz us lu pu re ct cn nx FA FP Fs Fp Fe Fm H od si x1 = some (2, 0, pn, tm, ft, xe, th, ms, fl, lf, row, M, sz, us, lu, pu, re, ct, cn, nx, FA, FP, Fs, Fp, Fe, Fm, H, od, si) := by
      unfold m_X6_run m_X6_run_11
      by_cases g : 1 ≤ x1
      · rw [if_neg (show ¬ x1 < 1 by rw [i32_lt1]; exact not_not_intro g), if_neg (fun g' => h1 ⟨g, g'⟩)]
      · rw [if_pos (show x1 < 1 by rw [i32_lt1]; exact g)]
    refine ⟨1, O, 0, pn, tm, ft, xe, th, ms, fl, lf, row, M, sz, us, lu, pu, re, ct, cn, nx, FA, FP, Fs, Fp, Fe, Fm, H, od, si, s, sv, mn, f, F, m, w, ?_, ?_, fun g => by simp at g, RZ_mono (by omega) hz, HR_mono (by omega) hH⟩
    · unfold m_L_run
      rw [k1, bn_s, if_neg (by first | decide | (dsimp only; decide)), if_pos rfl]
    · unfold m_X7_run m_X7_run_16
      rw [r_in_f h1, bn_s, if_pos rfl, r_holds1, bn_s, if_pos rfl]
theorem flush_case {s : Nat → Int32} {pn : Int32} {tm : Int32} {ft : Int32} {xe : Int32} {th : Int32} {ms : Int32} {fl : Int32} {lf : Int32} {row : Nat → Int32} {M : Nat → Nat → Int32} {sz : Nat → Int32} {us : Nat → Int32} {lu : Int32} {pu : Int32} {re : Int32} {dr : Int32} {kd : Nat → Int32} {tg : Nat → Int32} {oc : Nat → Int32} {ln : Nat → Int32} {ct : Nat → Int32} {cn : Nat → Int32} {nx : Int32} {B : Nat} (hz : RZ s (pn, tm, ft, xe, th, ms, fl, lf, row, M, sz, us, lu, pu, re, dr, kd, tg, oc, ln, ct, cn, nx) B) {sv : Nat → Int32} {mn : Int32} {H : Nat → zMT} {od si : Int32} (hH : HR sv mn H od si B) (tw : Int32) :
    ∃ b pn' sz' dr' H' od' si' t sv' mn', m_X6_flush tm ft xe th ms fl lf row M us lu pu re kd tg oc ln ct cn nx pn sz dr H od si = some (b, pn', sz', dr', H', od', si') ∧ m_X7_flush tw s sv mn = some (b, 0, t, sv', mn') ∧ RZ t (pn', tm, ft, xe, th, ms, fl, lf, row, M, sz', us, lu, pu, re, dr', kd, tg, oc, ln, ct, cn, nx) B ∧ HR sv' mn' H' od' si' B := by
  obtain ⟨hF, hd⟩ := RZ_FR hz
  obtain ⟨sv', mn', H', od', si', s1, s2, s3⟩ := save_x hz hH
  obtain ⟨T, sz', a1, a2, a3, a4, a5⟩ := flush_sim (dr := dr) hF sv' mn' 0
  refine ⟨nI (nl s), 0, sz', dr + nI (nl s), H', od', si', T, sv', mn', ?_, ?_, RZ_mk a4 (by rw [a5, ← hd]), s3⟩
  · unfold m_X6_flush
    rw [s2, bn_s, a3, bn_s]
  · unfold m_X7_flush
    rw [s1, bn_s, a1, bn_s, a2]
