set_option maxHeartbeats 8000000 in
set_option maxRecDepth 100000 in
theorem zK_of {s : State} {args : Array Value} (hts : ∀ w ∈ lw_tbl, w.before args s = true) : ∃ (D : va_G) (cI cZ cII cJ cM : ClassId), va_K D vwCl (zT cI cZ cII cJ cM) s := by
  obtain ⟨c0, i0, h0⟩ := u_known (C := RX0) (T := TX0) (N := 7) (n := 7) hts zlu_X0 (hts (.instantiable RX0 7) (by decide +kernel))
  obtain ⟨c1, i1, h1⟩ := u_known (C := RX1) (T := TX1) (N := 6) (n := 6) hts zlu_X1 (hts (.instantiable RX1 6) (by decide +kernel))
  obtain ⟨c2, i2, h2⟩ := u_known (C := RX2) (T := TX2) (N := 3) (n := 3) hts zlu_X2 (hts (.instantiable RX2 3) (by decide +kernel))
  obtain ⟨c3, i3, h3⟩ := u_known (C := RX3) (T := TX3) (N := 11) (n := 11) hts zlu_X3 (hts (.instantiable RX3 11) (by decide +kernel))
  obtain ⟨c4, i4, h4⟩ := u_known (C := RX4) (T := TX4) (N := 7) (n := 7) hts zlu_X4 (hts (.instantiable RX4 7) (by decide +kernel))
  obtain ⟨c5, i5, h5⟩ := u_known (C := RX5) (T := TX5) (N := 7) (n := 7) hts zlu_X5 (hts (.instantiable RX5 7) (by decide +kernel))
  obtain ⟨c6, i6, h6⟩ := u_known (C := RX6) (T := TX6) (N := 5) (n := 5) hts zlu_X6 (hts (.instantiable RX6 5) (by decide +kernel))
  obtain ⟨c7, i7, h7⟩ := u_known (C := RX7) (T := TX7) (N := 14) (n := 14) hts zlu_X7 (hts (.instantiable RX7 14) (by decide +kernel))
  have arr : ∀ ty : FieldType, (∀ C, ty ≠ .object C) → (Cond.arrayClass ty).before args s = true → ∃ c : ClassId, ArrOfT s c ty ∧ va_RA s c ty := by
    intro ty hne h
    obtain ⟨c, k, comp, h1, h2, h3⟩ := Cond.arrayClass_spec h
    refine ⟨c, fun n z => ⟨fun k h => (by cases h), k, h2, comp, h3⟩, ?_⟩
    cases ty with
    | object C => exact absurd rfl (hne C)
    | _ => exact h1
  obtain ⟨cI, kI⟩ := arr .int (fun _ h => by cases h) (hts _ (List.mem_of_getElem? (i := 151) (by decide +kernel)))
  obtain ⟨cZ, kZ⟩ := arr .boolean (fun _ h => by cases h) (hts _ (List.mem_of_getElem? (i := 319) (by decide +kernel)))
  obtain ⟨cJ, kJ⟩ := arr .long (fun _ h => by cases h) (hts _ (List.mem_of_getElem? (i := 1096) (by decide +kernel)))
  obtain ⟨coA, cII, kA, a1, a2, a3, a4⟩ := Cond.arrayOver_specA (t := .int) (hts (.arrayOver (.array .int)) (List.mem_of_getElem? (i := 159) (by decide +kernel)))
  obtain ⟨coM, cM, kM, m1, -, m2, m3, m4⟩ := Cond.arrayOver_spec (n := RX3) (hts (.arrayOver (.object RX3)) (List.mem_of_getElem? (i := 238) (by decide +kernel)))
  refine ⟨(fun k => [c0, c1, c2, c3, c4, c5, c6, c7].getD k 0, fun k => [i0, i1, i2, i3, i4, i5, i6, i7].getD k (fun _ => 0)), cI, cZ, cII, cJ, cM, ?_, ?_⟩
  · intro k q hq
    match k, hq with
    | 0, hq => cases hq; exact h0
    | 1, hq => cases hq; exact h1
    | 2, hq => cases hq; exact h2
    | 3, hq => cases hq; exact h3
    | 4, hq => cases hq; exact h4
    | 5, hq => cases hq; exact h5
    | 6, hq => cases hq; exact h6
    | 7, hq => cases hq; exact h7
    | k + 8, hq => simp [vwCl] at hq
  · intro k q hq
    match k, hq with
    | 0, hq => cases hq; exact kI
    | 1, hq => cases hq; exact kZ
    | 2, hq => cases hq; exact ⟨fun n z => ⟨fun k h => (by cases h), kA, a2, coA, a3⟩, a4⟩
    | 3, hq => cases hq; exact kJ
    | 4, hq => cases hq; exact ⟨fun n z => ⟨fun k h => (by cases h), kM, m2, coM, m3⟩, kM, coM, m2, m3, m1, m4⟩
    | k + 5, hq => simp [zT] at hq
theorem zX_of {s : State} {b : Nat} (hts : ∀ w ∈ lw_tbl, w.before #[Value.ref b] s = true) (hgv : (Jvm.Cond.and given_1 narrow_1).before #[Value.ref b] s = true) : pzX (fun q : Nat => s.heap.size ≤ q) s s.heap ∧ pzNc s ∧ pzN s ∧ pzAO s := by
  have hf := flat_of_before _ hgv
  have hA : ∀ a : Nat, a < s.heap.size → ¬ (fun q : Nat => s.heap.size ≤ q) a := fun a h => Nat.not_le.mpr h
  refine ⟨⟨fun q hq => ?_, ?_, ?_⟩, ⟨va_Nc.of (hf _ zFl_3), va_Nc.of (hf _ zFl_4)⟩, fun w hw => va_Nw.of (pz_tab pzN_ok hw) (hts w (pzNws_in w hw)), ?_, ?_⟩
  · obtain ⟨a, c, cell, k, h1, -⟩ := Cond.exactly_spec (hf _ (zStr_ex q hq))
    exact ⟨a, vk_R.of (A := #[Value.ref b]) (hts _ (zStr_in q hq)) h1⟩
  · exact vx_Zqof (hts _ (List.mem_of_getElem? (i := 475) (by decide +kernel))) (hts (.initialized Bundle.tN) (by decide +kernel)) (hf _ zFl_1) hA
  · exact vx_Zqof (hts _ (List.mem_of_getElem? (i := 477) (by decide +kernel))) (hts (.initialized Bundle.tN) (by decide +kernel)) (hf _ zFl_2) hA
  · exact va_AO.of (hts (.arrayOver (.object RX3)) (List.mem_of_getElem? (i := 238) (by decide +kernel)))
  · exact ao_tabs (A := #[Value.ref b]) rfl (hts (.arrayOver (.array .int)) (List.mem_of_getElem? (i := 159) (by decide +kernel)))
set_option maxHeartbeats 16000000 in
set_option maxRecDepth 100000 in
theorem whole_start {p : Program} {e : Env} {s : State} {m : MethodId} {below : List Frame} {meth : Method} {c : Code} (l : Launch) (hflags : l.flags = flags0) {b L : Nat} {xs : Nat → Int32} (hL : L ≤ 2048) (C0 : lw_At p s m meth c b L xs) : W p l e room_1 s m #[Value.ref b] below meth c s.heap [] 0 0 (lw_Z below #[Value.ref b] s) (entryFrame m ([Value.ref b] : List Value).toArray 9) := by
  obtain ⟨hx, hb, hr, hml, hown, hts0, hXs, hbl, hlocks, hgv⟩ := id C0
  have hb : c.code = cL_law := hb
  have hown : s.vm.findClass RL = some m.cls := hown
  have hfl : l.stackTraces = false := by
    show (!l.flags.contains noTraceFlag) = false
    rw [hflags]
    decide
  obtain ⟨D, cI, cZ, cII, cJ, cM, hK⟩ := zK_of hts0
  obtain ⟨hX, hNc, hN, hC⟩ := zX_of hts0 hgv
  have hts : ∀ w ∈ wsL_law, w.before #[Value.ref b] s = true := fun w h => hts0 w (wsL_law_in w h)
  obtain ⟨yP, hyP⟩ := x4_init_ok
  obtain ⟨yS, hyS⟩ := x7_init_ok
  have hA : ∀ q : Nat, s.heap.size ≤ q → (fun q : Nat => s.heap.size ≤ q) q := fun _ h => h
  obtain ⟨A, hAe⟩ : ∃ A : Nat → Prop, A = fun q : Nat => s.heap.size ≤ q := ⟨_, rfl⟩
  rw [← hAe] at hA hX
  have hS : va_S A s.heap s.heap [] := va_S.rf
  have hP : va_P D vwCl [] s.heap := fun k q h => by simp at h
  have hD : va_D A [] := ⟨fun i j p q h => by simp at h, fun k q h => by simp at h⟩
  have hl := lv_entry ([.ref b]) (n := 9) (Nat.le_of_ble_eq_true rfl)
  rw [lg_entry_eq]
  generalize (lg_sl ([.ref b]) ++ List.replicate (9 - (lg_sl ([.ref b])).length) Slot.unset).toArray = ls at hl ⊢
  have hl : lv_has ls 9 [(0, .ref b)] := hl
  have inX6 : ∀ w ∈ u_ws RX6 TX6 5, w ∈ wsL_law := by decide +kernel
  have inX7 : ∀ w ∈ u_ws RX7 TX7 14, w ∈ wsL_law := by decide +kernel
  refine va_new (ci := 6) (fs := [.null, .null, .null, .null, .null]) (C := RX6) (T := TX6) (N := 5) hx hb hts inX6 tyX6 tyX6_ok hown (hts (.classLink RL 8 RX6) (by decide +kernel)) (hts (.instantiable RX6 5) (by decide +kernel)) (hts (.initialized RX6) (by decide +kernel)) hK hP hD hS hA rfl (fun j hj => by rcases (show j = 0 ∨ j = 1 ∨ j = 2 ∨ j = 3 ∨ j = 4 by omega) with rfl | rfl | rfl | rfl | rfl <;> rfl) (z_rc (by decide)) (z_rs (by decide)) dL_law_0 (fun q0 H hP hD hS => ?_)
  refine lv_dup hx hb dL_law_3 rfl ?_
  refine z_ac (x := []) (b := [(q0, .inr (6, [.null, .null, .null, .null, .null]))] ++ []) (y := []) (va_runI (As := []) (rest := [.ref q0]) ⟨hx, hb, hml, hown, hts⟩ (c_X6_init l D cI cZ cII cJ cM q0 H.size yP hyP) (cwI 0 hts gL_law_X6_init rfl rfl rfl (hts (.initialized RX6) (by decide +kernel)) (hts (.methodLink RL 64 yX6_init) (by decide +kernel)) (hts (.instanceMethod yX6_init) (by decide +kernel)) rfl (by decide +kernel) ⟨(Nat.le_of_ble_eq_true rfl), (Nat.le_of_ble_eq_true rfl)⟩) (pz_SC (x := []) (b := [(q0, .inr (6, [.null, .null, .null, .null, .null]))] ++ []) (y := []) hK hN hC hP hD (by simp only [List.append_assoc, List.nil_append, List.append_nil, List.cons_append])) rfl rfl hl.1 rfl (lv_room (Nat.le_of_ble_eq_true rfl)) dL_law_4 ⟨z_rc (by decide), z_rs (by decide)⟩) hP hD hS hA (by simp only [List.append_assoc, List.nil_append, List.append_nil, List.cons_append]) (fun u H locs hu4 hP hD hS => ?_)
  have hu4 : u.1.1 0 = q0 := hu4
  rw [← hu4]
  obtain ⟨wT, hwT⟩ : ∃ w : va_W, w = (wX6 cI cZ cII u.1.1 (u.2.1 0 0) (u.2.2.2.1 0) (u.1.2.1 0) (u.2.2.1 0) (u.1.2.2 0) ++ (wX5 cI cZ cII u.1.2.1 (fun _ => 0) 0 0 0 0 0 0 ++ (wX4 cI cZ cII u.1.2.2 (fun _ => 0) (fun _ => 0) (fun _ => 0) yP.1 (fun _ => 0) yP.2 0 ++ (zMc cI cZ cII u.2.1 (z0M yP) ++ (wX1 cI cZ cII u.2.2.1 (fun _ => 0) (fun _ => 0) 0 0 0 0 ++ (wX2 cI cZ cII cM u.2.2.2.1 u.2.2.2.2 (fun _ => z0M yP) 0 0 ++ [])))))) := ⟨_, rfl⟩
  have hP : va_P D vwCl (wT ++ []) H := by rw [hwT]; simpa only [List.append_assoc, List.nil_append, List.append_nil, List.cons_append] using hP
  have hD : va_D A (wT ++ []) := by rw [hwT]; simpa only [List.append_assoc, List.nil_append, List.append_nil, List.cons_append] using hD
  refine lv_astore_n (lv' := [(1, .ref (u.1.1 0)), (0, .ref b)]) hx hb dL_law_7 rfl hl (by decide) rfl (fun ls hl => ?_)
  refine va_new (ci := 7) (fs := [.int 0, .null, .null, .null, .int 0, .null, .int 0, .null, .null, .int 0, .int 0, .int 0, .int 0, .int 0]) (C := RX7) (T := TX7) (N := 14) hx hb hts inX7 tyX7 tyX7_ok hown (hts (.classLink RL 65 RX7) (by decide +kernel)) (hts (.instantiable RX7 14) (by decide +kernel)) (hts (.initialized RX7) (by decide +kernel)) hK hP hD hS hA rfl (fun j hj => by rcases (show j = 0 ∨ j = 1 ∨ j = 2 ∨ j = 3 ∨ j = 4 ∨ j = 5 ∨ j = 6 ∨ j = 7 ∨ j = 8 ∨ j = 9 ∨ j = 10 ∨ j = 11 ∨ j = 12 ∨ j = 13 by omega) with rfl | rfl | rfl | rfl | rfl | rfl | rfl | rfl | rfl | rfl | rfl | rfl | rfl | rfl <;> rfl) (z_rc (by decide)) (z_rs (by decide)) dL_law_8 (fun q8 H hP hD hS => ?_)
  have hP : va_P D vwCl (wT ++ ([(q8, .inr (7, [.int 0, .null, .null, .null, .int 0, .null, .int 0, .null, .null, .int 0, .int 0, .int 0, .int 0, .int 0]))] ++ [])) H := by simpa only [List.append_assoc, List.nil_append, List.append_nil, List.cons_append] using hP
  have hD : va_D A (wT ++ ([(q8, .inr (7, [.int 0, .null, .null, .null, .int 0, .null, .int 0, .null, .null, .int 0, .int 0, .int 0, .int 0, .int 0]))] ++ [])) := by simpa only [List.append_assoc, List.nil_append, List.append_nil, List.cons_append] using hD
  refine lv_dup hx hb dL_law_11 rfl ?_
  refine z_ac (x := wT) (b := [(q8, .inr (7, [.int 0, .null, .null, .null, .int 0, .null, .int 0, .null, .null, .int 0, .int 0, .int 0, .int 0, .int 0]))] ++ []) (y := []) (va_runI (As := []) (rest := [.ref q8]) ⟨hx, hb, hml, hown, hts⟩ (c_X7_init l D cI cZ cII cJ cM q8 H.size yS hyS) (cwI 0 hts gL_law_X7_init rfl rfl rfl (hts (.initialized RX7) (by decide +kernel)) (hts (.methodLink RL 67 yX7_init) (by decide +kernel)) (hts (.instanceMethod yX7_init) (by decide +kernel)) rfl (by decide +kernel) ⟨(Nat.le_of_ble_eq_true rfl), (Nat.le_of_ble_eq_true rfl)⟩) (pz_SC (x := wT) (b := [(q8, .inr (7, [.int 0, .null, .null, .null, .int 0, .null, .int 0, .null, .null, .int 0, .int 0, .int 0, .int 0, .int 0]))] ++ []) (y := []) hK hN hC hP hD (by simp only [List.append_assoc, List.nil_append, List.append_nil, List.cons_append])) rfl rfl hl.1 rfl (lv_room (Nat.le_of_ble_eq_true rfl)) dL_law_12 ⟨z_rc (by decide), z_rs (by decide)⟩) hP hD hS hA (by simp only [List.append_assoc, List.nil_append, List.append_nil, List.cons_append]) (fun v H locs hu12 hP hD hS => ?_)
  have hu12 : v 0 = q8 := hu12
  rw [← hu12]
  have hP : va_P D vwCl (wT ++ (wX7 cI cZ cII v 0 yS (fun _ => 0) (fun _ => 0) 0 (fun _ => 0) 0 (fun _ => 0) (fun _ => 0) 0 0 0 0 0 ++ [])) H := by simpa only [List.append_assoc, List.nil_append, List.append_nil, List.cons_append] using hP
  have hD : va_D A (wT ++ (wX7 cI cZ cII v 0 yS (fun _ => 0) (fun _ => 0) 0 (fun _ => 0) 0 (fun _ => 0) (fun _ => 0) 0 0 0 0 0 ++ [])) := by simpa only [List.append_assoc, List.nil_append, List.append_nil, List.cons_append] using hD
  refine lv_astore_n (lv' := [(2, .ref (v 0)), (1, .ref (u.1.1 0)), (0, .ref b)]) hx hb dL_law_15 rfl hl (by decide) rfl (fun ls hl => ?_)
  refine lv_iconst (v := 1) hx hb dL_law_16 (by decide) ?_
  refine z_newa (atype := .long) (ty := .long) (a0 := (1, .inr (.inl (fun _ => 0)))) (N' := 1) hx hb (hts (.arrayClass .long) (by decide +kernel)) rfl 3 rfl (fun _ h => by cases h) hK hP hD hS hA (fun _ => rfl) (by decide) (by decide) (Nat.le_of_ble_eq_true rfl) (z_rc (by decide)) (z_rs (by decide)) dL_law_17 (fun q17 H hP hD hS => ?_)
  refine lv_astore_n (lv' := [(3, .ref q17), (2, .ref (v 0)), (1, .ref (u.1.1 0)), (0, .ref b)]) hx hb dL_law_19 rfl hl (by decide) rfl (fun ls hl => ?_)
  refine lv_iconst (v := 0) hx hb dL_law_20 (by decide) ?_
  refine lv_istore (lv' := [(4, .int 0), (3, .ref q17), (2, .ref (v 0)), (1, .ref (u.1.1 0)), (0, .ref b)]) hx hb dL_law_21 hl (by decide) rfl (fun ls hl => ?_)
  have hP := P_swap (w := (wT ++ (wX7 cI cZ cII v 0 yS (fun _ => 0) (fun _ => 0) 0 (fun _ => 0) 0 (fun _ => 0) (fun _ => 0) 0 0 0 0 0 ++ [])) ++ [(q17, .inl (cJ, 1, .inr (.inl (fun _ => 0))))]) (w' := [(q17, .inl (cJ, 1, .inr (.inl (fun _ => 0))))] ++ (wT ++ (wX7 cI cZ cII v 0 yS (fun _ => 0) (fun _ => 0) 0 (fun _ => 0) 0 (fun _ => 0) (fun _ => 0) 0 0 0 0 0 ++ []))) (x := []) (a := wT ++ wX7 cI cZ cII v 0 yS (fun _ => 0) (fun _ => 0) 0 (fun _ => 0) 0 (fun _ => 0) (fun _ => 0) 0 0 0 0 0) (b := [(q17, .inl (cJ, 1, .inr (.inl (fun _ => 0))))]) (y := []) (by simp only [List.append_assoc, List.nil_append, List.append_nil, List.cons_append]) (by simp only [List.append_assoc, List.nil_append, List.append_nil, List.cons_append]) hP
  have hD := D_swap (w := (wT ++ (wX7 cI cZ cII v 0 yS (fun _ => 0) (fun _ => 0) 0 (fun _ => 0) 0 (fun _ => 0) (fun _ => 0) 0 0 0 0 0 ++ [])) ++ [(q17, .inl (cJ, 1, .inr (.inl (fun _ => 0))))]) (w' := [(q17, .inl (cJ, 1, .inr (.inl (fun _ => 0))))] ++ (wT ++ (wX7 cI cZ cII v 0 yS (fun _ => 0) (fun _ => 0) 0 (fun _ => 0) 0 (fun _ => 0) (fun _ => 0) 0 0 0 0 0 ++ []))) (x := []) (a := wT ++ wX7 cI cZ cII v 0 yS (fun _ => 0) (fun _ => 0) 0 (fun _ => 0) 0 (fun _ => 0) (fun _ => 0) 0 0 0 0 0) (b := [(q17, .inl (cJ, 1, .inr (.inl (fun _ => 0))))]) (y := []) (by simp only [List.append_assoc, List.nil_append, List.append_nil, List.cons_append]) (by simp only [List.append_assoc, List.nil_append, List.append_nil, List.cons_append]) hD
  refine W.base ?_
  have hW : [(q17, .inl (cJ, 1, .inr (.inl (fun _ => 0))))] ++ (wT ++ (wX7 cI cZ cII v 0 yS (fun _ => 0) (fun _ => 0) 0 (fun _ => 0) 0 (fun _ => 0) (fun _ => 0) 0 0 0 0 0 ++ [])) = zJ cJ (zf [q17]) (fun _ => 0) ++ (wX6 cI cZ cII u.1.1 (u.2.1 0 0) (u.2.2.2.1 0) (u.1.2.1 0) (u.2.2.1 0) (u.1.2.2 0) ++ (wX5 cI cZ cII u.1.2.1 (fun _ => 0) 0 0 0 0 0 0 ++ (wX4 cI cZ cII u.1.2.2 (fun _ => 0) (fun _ => 0) (fun _ => 0) yP.1 (fun _ => 0) yP.2 0 ++ (wX3 cI cZ cII (u.2.1 0) (u.2.1 3 0) (u.2.1 2 0) (u.2.1 1 0) 0 0 0 0 0 0 0 0 ++ (zA cI (u.2.1 1) 8 (fun _ => 0) ++ (wX0 cI cZ cII (u.2.1 2) (u.2.1 4) (fun _ _ => 0) (fun _ => 0) (fun _ => 0) 0 0 0 0 ++ (wX4 cI cZ cII (u.2.1 3) (fun _ => 0) (fun _ => 0) (fun _ => 0) yP.1 (fun _ => 0) yP.2 0 ++ (wX1 cI cZ cII u.2.2.1 (fun _ => 0) (fun _ => 0) 0 0 0 0 ++ (wX2 cI cZ cII cM u.2.2.2.1 u.2.2.2.2 (fun _ => z0M yP) 0 0 ++ (wX7 cI cZ cII v 0 yS (fun _ => 0) (fun _ => 0) 0 (fun _ => 0) 0 (fun _ => 0) (fun _ => 0) 0 0 0 0 0 ++ [])))))))))) := by
    rw [hwT]
    simp only [zMc, z0M, zJ, zf, List.append_assoc, List.nil_append, List.append_nil, List.cons_append, List.getD_cons_zero]
  rw [hW] at hP hD
  have hF : z_LF s m #[Value.ref b] D (zT cI cZ cII cJ cM) (fun q : Nat => s.heap.size ≤ q) b L xs := ⟨hts, hown, hN, hK, by rw [← hAe]; exact hX, hNc, hXs, fun _ h => h⟩
  rw [hAe] at hS hD
  exact law_loop l hfl D cI cZ cII cJ cM (zf [q17]) u.1.1 u.1.2.1 u.1.2.2 (u.2.1 0) (u.2.1 1) (u.2.1 2) (u.2.1 4) (u.2.1 3) u.2.2.1 u.2.2.2.1 u.2.2.2.2 v hx hb hr hml hlocks hF hbl 4000 s.drawn (Drawn.sameBut.refl s.drawn lw_cs) (fun _ => 0) (fun _ => 0) 0 0 0 0 0 0 (fun _ => 0) (fun _ => 0) (fun _ => 0) yP.1 (fun _ => 0) yP.2 0 0 0 0 0 0 0 0 0 (fun _ => 0) (fun _ _ => 0) (fun _ => 0) (fun _ => 0) 0 0 0 0 (fun _ => 0) (fun _ => 0) (fun _ => 0) yP.1 (fun _ => 0) yP.2 0 (fun _ => 0) (fun _ => 0) 0 0 0 0 (fun _ => z0M yP) 0 0 0 yS (fun _ => 0) (fun _ => 0) 0 (fun _ => 0) 0 (fun _ => 0) (fun _ => 0) 0 0 0 0 0 0 _ _ (by decide) (by decide) _ _ _ (pure_main hL xs yP hyP yS hyS) hP hD hS (lv_sub hl [4, 3, 2, 1, 0] rfl)
