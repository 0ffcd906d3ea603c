set_option maxHeartbeats 8000000 in
set_option maxRecDepth 100000 in
theorem c_X1_init (l : Launch) (D : va_G) (cI cZ cII cJ cM : ClassId) (o sz : Nat) : Met l yX1_init wsX1_init ({ frames := 1, cells := 2, slots := 16, locals := 12 } : Room) (va_Pc [.ref o] (pzPreC D (zT cI cZ cII cJ cM) ([(o, .inr (1, [.null, .null, .int 0, .int 0, .int 0, .int 0]))] ++ []) sz)) (va_Qv (fun (u : Nat → Nat) => u 0 = o) (fun u t => pzB D (zT cI cZ cII cJ cM) (va_A ([(o, .inr (1, [.null, .null, .int 0, .int 0, .int 0, .int 0]))] ++ []) sz) (wX1 cI cZ cII u (fun _ => 0) (fun _ => 0) 0 0 0 0 ++ []) t) (va_A ([(o, .inr (1, [.null, .null, .int 0, .int 0, .int 0, .int 0]))] ++ []) sz)) 2 16 (va_A ([(o, .inr (1, [.null, .null, .int 0, .int 0, .int 0, .int 0]))] ++ []) sz) := by
  refine z_metc (S := Nat → Nat) (post := fun u => u 0 = o) (w1 := fun u => wX1 cI cZ cII u (fun _ => 0) (fun _ => 0) 0 0 0 0 ++ []) (cc := cX1_init) (maxL := 1) (by decide) rfl rfl (Nat.le_of_ble_eq_true rfl) ?_
  intro p e s m args below meth c A ls Q H locs F hC hin hP hD hS hl hret
  obtain ⟨hx, hb, hml, hown, hts, hN, hK, hA⟩ := F
  have hown : s.vm.findClass RX1 = some m.cls := hown
  have hl : lv_has ls 1 [(0, .ref o)] := hl
  have inX1 : ∀ w ∈ u_ws RX1 TX1 6, w ∈ wsX1_init := by decide +kernel
  refine lv_aload_n hx hb dX1_init_0 rfl (lv_at hl 0 rfl) ?_
  refine W.objInit hx hb hown (hts (.methodLink RX1 3 objectInit) (by decide +kernel)) (hts (.instanceMethod objectInit) (by decide +kernel)) (hts (.code objectInit ⟨#[0xb1]⟩ 1 none) (by decide +kernel)) rfl (by rw [hml]; exact hl.1) rfl dX1_init_1 (Nat.le_of_ble_eq_true rfl) (Nat.le_of_ble_eq_true rfl) ?_
  refine W.eq (g2 := F0 m 4 ls []) rfl ?_
  refine lv_aload_n hx hb dX1_init_4 rfl (lv_at hl 0 rfl) ?_
  refine lv_bipush (v := 8) hx hb dX1_init_5 (by decide) ?_
  refine z_newa (atype := .int) (ty := .int) (a0 := (8, .inl (fun _ => 0))) (N' := 8) hx hb (hts (.arrayClass .int) (by decide +kernel)) rfl 0 rfl (fun _ h => by cases h) hK hP hD hS hA (fun _ => rfl) (by decide) (by decide) (Nat.le_of_ble_eq_true rfl) (Nat.le_of_ble_eq_true rfl) (Nat.le_of_ble_eq_true rfl) dX1_init_7 (fun q7 H hP hD hS => ?_)
  have hP : va_P D vwCl ([(o, .inr (1, [.null, .null, .int 0, .int 0, .int 0, .int 0]))] ++ ([(q7, .inl (cI, 8, .inl (fun _ => 0)))] ++ [])) H := by simpa only [List.append_assoc, List.nil_append, List.append_nil, List.cons_append] using hP
  have hD : va_D A ([(o, .inr (1, [.null, .null, .int 0, .int 0, .int 0, .int 0]))] ++ ([(q7, .inl (cI, 8, .inl (fun _ => 0)))] ++ [])) := by simpa only [List.append_assoc, List.nil_append, List.append_nil, List.cons_append] using hD
  refine va_putF (D := D) (ci := 1) (v := .ref (q7)) (ty := .array .int) (C := RX1) (T := TX1) (N := 6) hx hb hts inX1 tyX1 tyX1_ok nmX1 hown hK hP hD hS 0 rfl rfl 0 (by decide) (hts (.fieldLink RX1 9 "TraceCache$Fetch" "addresses" "[I") (by decide +kernel)) (fun _ h9 => h9) rfl hin rfl (by decide +kernel) rfl rfl (Nat.le_of_ble_eq_true rfl) dX1_init_9 (fun H locs hP hD hS => ?_)
  have hP : va_P D vwCl ([(o, .inr (1, [.ref (q7), .null, .int 0, .int 0, .int 0, .int 0]))] ++ ([(q7, .inl (cI, 8, .inl (fun _ => 0)))] ++ [])) H := hP
  have hD : va_D A ([(o, .inr (1, [.ref (q7), .null, .int 0, .int 0, .int 0, .int 0]))] ++ ([(q7, .inl (cI, 8, .inl (fun _ => 0)))] ++ [])) := hD
  refine lv_aload_n hx hb dX1_init_12 rfl (lv_at hl 0 rfl) ?_
  refine lv_bipush (v := 8) hx hb dX1_init_13 (by decide) ?_
  refine z_newa (atype := .boolean) (ty := .boolean) (a0 := (8, .inl (fun _ => 0))) (N' := 8) hx hb (hts (.arrayClass .boolean) (by decide +kernel)) rfl 1 rfl (fun _ h => by cases h) hK hP hD hS hA (fun _ => rfl) (by decide) (by decide) (Nat.le_of_ble_eq_true rfl) (Nat.le_of_ble_eq_true rfl) (Nat.le_of_ble_eq_true rfl) dX1_init_15 (fun q15 H hP hD hS => ?_)
  have hP : va_P D vwCl ([(o, .inr (1, [.ref (q7), .null, .int 0, .int 0, .int 0, .int 0]))] ++ ([(q7, .inl (cI, 8, .inl (fun _ => 0)))] ++ ([(q15, .inl (cZ, 8, .inl (fun _ => 0)))] ++ []))) H := by simpa only [List.append_assoc, List.nil_append, List.append_nil, List.cons_append] using hP
  have hD : va_D A ([(o, .inr (1, [.ref (q7), .null, .int 0, .int 0, .int 0, .int 0]))] ++ ([(q7, .inl (cI, 8, .inl (fun _ => 0)))] ++ ([(q15, .inl (cZ, 8, .inl (fun _ => 0)))] ++ []))) := by simpa only [List.append_assoc, List.nil_append, List.append_nil, List.cons_append] using hD
  refine va_putF (D := D) (ci := 1) (v := .ref (q15)) (ty := .array .boolean) (C := RX1) (T := TX1) (N := 6) hx hb hts inX1 tyX1 tyX1_ok nmX1 hown hK hP hD hS 0 rfl rfl 1 (by decide) (hts (.fieldLink RX1 15 "TraceCache$Fetch" "predictions" "[Z") (by decide +kernel)) (fun _ h9 => h9) rfl hin rfl (by decide +kernel) rfl rfl (Nat.le_of_ble_eq_true rfl) dX1_init_17 (fun H locs hP hD hS => ?_)
  have hP : va_P D vwCl ([(o, .inr (1, [.ref (q7), .ref (q15), .int 0, .int 0, .int 0, .int 0]))] ++ ([(q7, .inl (cI, 8, .inl (fun _ => 0)))] ++ ([(q15, .inl (cZ, 8, .inl (fun _ => 0)))] ++ []))) H := hP
  have hD : va_D A ([(o, .inr (1, [.ref (q7), .ref (q15), .int 0, .int 0, .int 0, .int 0]))] ++ ([(q7, .inl (cI, 8, .inl (fun _ => 0)))] ++ ([(q15, .inl (cZ, 8, .inl (fun _ => 0)))] ++ []))) := hD
  exact hret (zf [o, q7, q15]) _ _ _ _ _ _ dX1_init_20 rfl (Nat.le_of_ble_eq_true rfl) (Nat.le_of_ble_eq_true rfl) hP hD hS

set_option maxHeartbeats 8000000 in
set_option maxRecDepth 100000 in
theorem c_X5_init (l : Launch) (D : va_G) (cI cZ cII cJ cM : ClassId) (o sz : Nat) : Met l yX5_init wsX5_init ({ frames := 1, cells := 1, slots := 80, locals := 12 } : Room) (va_Pc [.ref o] (pzPreC D (zT cI cZ cII cJ cM) ([(o, .inr (5, [.null, .int 0, .int 0, .int 0, .int 0, .int 0, .int 0]))] ++ []) sz)) (va_Qv (fun (u : Nat → Nat) => u 0 = o) (fun u t => pzB D (zT cI cZ cII cJ cM) (va_A ([(o, .inr (5, [.null, .int 0, .int 0, .int 0, .int 0, .int 0, .int 0]))] ++ []) sz) (wX5 cI cZ cII u (fun _ => 0) 0 0 0 0 0 0 ++ []) t) (va_A ([(o, .inr (5, [.null, .int 0, .int 0, .int 0, .int 0, .int 0, .int 0]))] ++ []) sz)) 1 80 (va_A ([(o, .inr (5, [.null, .int 0, .int 0, .int 0, .int 0, .int 0, .int 0]))] ++ []) sz) := by
  refine z_metc (S := Nat → Nat) (post := fun u => u 0 = o) (w1 := fun u => wX5 cI cZ cII u (fun _ => 0) 0 0 0 0 0 0 ++ []) (cc := cX5_init) (maxL := 1) (by decide) rfl rfl (Nat.le_of_ble_eq_true rfl) ?_
  intro p e s m args below meth c A ls Q H locs F hC hin hP hD hS hl hret
  obtain ⟨hx, hb, hml, hown, hts, hN, hK, hA⟩ := F
  have hown : s.vm.findClass RX5 = some m.cls := hown
  have hl : lv_has ls 1 [(0, .ref o)] := hl
  have inX5 : ∀ w ∈ u_ws RX5 TX5 7, w ∈ wsX5_init := by decide +kernel
  refine lv_aload_n hx hb dX5_init_0 rfl (lv_at hl 0 rfl) ?_
  refine W.objInit hx hb hown (hts (.methodLink RX5 3 objectInit) (by decide +kernel)) (hts (.instanceMethod objectInit) (by decide +kernel)) (hts (.code objectInit ⟨#[0xb1]⟩ 1 none) (by decide +kernel)) rfl (by rw [hml]; exact hl.1) rfl dX5_init_1 (Nat.le_of_ble_eq_true rfl) (Nat.le_of_ble_eq_true rfl) ?_
  refine W.eq (g2 := F0 m 4 ls []) rfl ?_
  refine lv_aload_n hx hb dX5_init_4 rfl (lv_at hl 0 rfl) ?_
  refine lv_bipush (v := 80) hx hb dX5_init_5 (by decide) ?_
  refine z_newa (atype := .int) (ty := .int) (a0 := (80, .inl (fun _ => 0))) (N' := 80) hx hb (hts (.arrayClass .int) (by decide +kernel)) rfl 0 rfl (fun _ h => by cases h) hK hP hD hS hA (fun _ => rfl) (by decide) (by decide) (Nat.le_of_ble_eq_true rfl) (Nat.le_of_ble_eq_true rfl) (Nat.le_of_ble_eq_true rfl) dX5_init_7 (fun q7 H hP hD hS => ?_)
  have hP : va_P D vwCl ([(o, .inr (5, [.null, .int 0, .int 0, .int 0, .int 0, .int 0, .int 0]))] ++ ([(q7, .inl (cI, 80, .inl (fun _ => 0)))] ++ [])) H := by simpa only [List.append_assoc, List.nil_append, List.append_nil, List.cons_append] using hP
  have hD : va_D A ([(o, .inr (5, [.null, .int 0, .int 0, .int 0, .int 0, .int 0, .int 0]))] ++ ([(q7, .inl (cI, 80, .inl (fun _ => 0)))] ++ [])) := by simpa only [List.append_assoc, List.nil_append, List.append_nil, List.cons_append] using hD
  refine va_putF (D := D) (ci := 5) (v := .ref (q7)) (ty := .array .int) (C := RX5) (T := TX5) (N := 7) hx hb hts inX5 tyX5 tyX5_ok nmX5 hown hK hP hD hS 0 rfl rfl 0 (by decide) (hts (.fieldLink RX5 9 "TraceCache$Text" "characters" "[I") (by decide +kernel)) (fun _ h9 => h9) rfl hin rfl (by decide +kernel) rfl rfl (Nat.le_of_ble_eq_true rfl) dX5_init_9 (fun H locs hP hD hS => ?_)
  have hP : va_P D vwCl ([(o, .inr (5, [.ref (q7), .int 0, .int 0, .int 0, .int 0, .int 0, .int 0]))] ++ ([(q7, .inl (cI, 80, .inl (fun _ => 0)))] ++ [])) H := hP
  have hD : va_D A ([(o, .inr (5, [.ref (q7), .int 0, .int 0, .int 0, .int 0, .int 0, .int 0]))] ++ ([(q7, .inl (cI, 80, .inl (fun _ => 0)))] ++ [])) := hD
  exact hret (zf [o, q7]) _ _ _ _ _ _ dX5_init_12 rfl (Nat.le_of_ble_eq_true rfl) (Nat.le_of_ble_eq_true rfl) hP hD hS

set_option maxHeartbeats 8000000 in
set_option maxRecDepth 100000 in
theorem c_X0_init (l : Launch) (D : va_G) (cI cZ cII cJ cM : ClassId) (o sz : Nat) : Met l yX0_init wsX0_init ({ frames := 1, cells := 11, slots := 88, locals := 12 } : Room) (va_Pc [.ref o] (pzPreC D (zT cI cZ cII cJ cM) ([(o, .inr (0, [.null, .null, .null, .int 0, .int 0, .int 0, .int 0]))] ++ []) sz)) (va_Qv (fun (u : (Nat → Nat) × (Nat → Nat)) => u.1 0 = o) (fun u t => pzB D (zT cI cZ cII cJ cM) (va_A ([(o, .inr (0, [.null, .null, .null, .int 0, .int 0, .int 0, .int 0]))] ++ []) sz) (wX0 cI cZ cII u.1 u.2 (fun _ _ => 0) (fun _ => 0) (fun _ => 0) 0 0 0 0 ++ []) t) (va_A ([(o, .inr (0, [.null, .null, .null, .int 0, .int 0, .int 0, .int 0]))] ++ []) sz)) 11 88 (va_A ([(o, .inr (0, [.null, .null, .null, .int 0, .int 0, .int 0, .int 0]))] ++ []) sz) := by
  refine z_metc (S := (Nat → Nat) × (Nat → Nat)) (post := fun u => u.1 0 = o) (w1 := fun u => wX0 cI cZ cII u.1 u.2 (fun _ _ => 0) (fun _ => 0) (fun _ => 0) 0 0 0 0 ++ []) (cc := cX0_init) (maxL := 1) (by decide) rfl rfl (Nat.le_of_ble_eq_true rfl) ?_
  intro p e s m args below meth c A ls Q H locs F hC hin hP hD hS hl hret
  obtain ⟨hx, hb, hml, hown, hts, hN, hK, hA⟩ := F
  have hown : s.vm.findClass RX0 = some m.cls := hown
  have hl : lv_has ls 1 [(0, .ref o)] := hl
  have inX0 : ∀ w ∈ u_ws RX0 TX0 7, w ∈ wsX0_init := by decide +kernel
  refine lv_aload_n hx hb dX0_init_0 rfl (lv_at hl 0 rfl) ?_
  refine W.objInit hx hb hown (hts (.methodLink RX0 3 objectInit) (by decide +kernel)) (hts (.instanceMethod objectInit) (by decide +kernel)) (hts (.code objectInit ⟨#[0xb1]⟩ 1 none) (by decide +kernel)) rfl (by rw [hml]; exact hl.1) rfl dX0_init_1 (Nat.le_of_ble_eq_true rfl) (Nat.le_of_ble_eq_true rfl) ?_
  refine W.eq (g2 := F0 m 4 ls []) rfl ?_
  refine lv_aload_n hx hb dX0_init_4 rfl (lv_at hl 0 rfl) ?_
  refine lv_bipush (v := 8) hx hb dX0_init_5 (by decide) ?_
  refine lv_bipush (v := 8) hx hb dX0_init_7 (by decide) ?_
  refine z_newm hx hb hown (hts (.classLink RX0 9 "[[I") (by decide +kernel)) hC.2 (hts (.arrayClass .int) (by decide +kernel)) 0 2 rfl rfl hK hP hD hS hA (Nat.le_of_ble_eq_true rfl) (Nat.le_of_ble_eq_true rfl) dX0_init_9 (fun q9 rr H hP hD hS => ?_)
  have hP : va_P D vwCl ([(o, .inr (0, [.null, .null, .null, .int 0, .int 0, .int 0, .int 0]))] ++ ([(q9, .inl (cII, 8, .inr (.inr (.inr (.inr (zro rr))))))] ++ (zr8 cI rr (fun _ _ => 0) ++ []))) H := by simpa only [List.append_assoc, List.nil_append, List.append_nil, List.cons_append] using hP
  have hD : va_D A ([(o, .inr (0, [.null, .null, .null, .int 0, .int 0, .int 0, .int 0]))] ++ ([(q9, .inl (cII, 8, .inr (.inr (.inr (.inr (zro rr))))))] ++ (zr8 cI rr (fun _ _ => 0) ++ []))) := by simpa only [List.append_assoc, List.nil_append, List.append_nil, List.cons_append] using hD
  refine va_putF (D := D) (ci := 0) (v := .ref (q9)) (ty := .array (.array .int)) (C := RX0) (T := TX0) (N := 7) hx hb hts inX0 tyX0 tyX0_ok nmX0 hown hK hP hD hS 0 rfl rfl 0 (by decide) (hts (.fieldLink RX0 11 "TraceCache$Cache" "addresses" "[[I") (by decide +kernel)) (fun _ h9 => h9) rfl hin rfl (by decide +kernel) rfl rfl (Nat.le_of_ble_eq_true rfl) dX0_init_13 (fun H locs hP hD hS => ?_)
  have hP : va_P D vwCl ([(o, .inr (0, [.ref (q9), .null, .null, .int 0, .int 0, .int 0, .int 0]))] ++ ([(q9, .inl (cII, 8, .inr (.inr (.inr (.inr (zro rr))))))] ++ (zr8 cI rr (fun _ _ => 0) ++ []))) H := hP
  have hD : va_D A ([(o, .inr (0, [.ref (q9), .null, .null, .int 0, .int 0, .int 0, .int 0]))] ++ ([(q9, .inl (cII, 8, .inr (.inr (.inr (.inr (zro rr))))))] ++ (zr8 cI rr (fun _ _ => 0) ++ []))) := hD
  refine lv_aload_n hx hb dX0_init_16 rfl (lv_at hl 0 rfl) ?_
  refine lv_bipush (v := 8) hx hb dX0_init_17 (by decide) ?_
  refine z_newa (atype := .int) (ty := .int) (a0 := (8, .inl (fun _ => 0))) (N' := 8) hx hb (hts (.arrayClass .int) (by decide +kernel)) rfl 0 rfl (fun _ h => by cases h) hK hP hD hS hA (fun _ => rfl) (by decide) (by decide) (Nat.le_of_ble_eq_true rfl) (Nat.le_of_ble_eq_true rfl) (Nat.le_of_ble_eq_true rfl) dX0_init_19 (fun q19 H hP hD hS => ?_)
  have hP : va_P D vwCl ([(o, .inr (0, [.ref (q9), .null, .null, .int 0, .int 0, .int 0, .int 0]))] ++ ([(q9, .inl (cII, 8, .inr (.inr (.inr (.inr (zro rr))))))] ++ (zr8 cI rr (fun _ _ => 0) ++ ([(q19, .inl (cI, 8, .inl (fun _ => 0)))] ++ [])))) H := by simpa only [List.append_assoc, List.nil_append, List.append_nil, List.cons_append] using hP
  have hD : va_D A ([(o, .inr (0, [.ref (q9), .null, .null, .int 0, .int 0, .int 0, .int 0]))] ++ ([(q9, .inl (cII, 8, .inr (.inr (.inr (.inr (zro rr))))))] ++ (zr8 cI rr (fun _ _ => 0) ++ ([(q19, .inl (cI, 8, .inl (fun _ => 0)))] ++ [])))) := by simpa only [List.append_assoc, List.nil_append, List.append_nil, List.cons_append] using hD
  refine va_putF (D := D) (ci := 0) (v := .ref (q19)) (ty := .array .int) (C := RX0) (T := TX0) (N := 7) hx hb hts inX0 tyX0 tyX0_ok nmX0 hown hK hP hD hS 0 rfl rfl 1 (by decide) (hts (.fieldLink RX0 16 "TraceCache$Cache" "sizes" "[I") (by decide +kernel)) (fun _ h9 => h9) rfl hin rfl (by decide +kernel) rfl rfl (Nat.le_of_ble_eq_true rfl) dX0_init_21 (fun H locs hP hD hS => ?_)
  have hP : va_P D vwCl ([(o, .inr (0, [.ref (q9), .ref (q19), .null, .int 0, .int 0, .int 0, .int 0]))] ++ ([(q9, .inl (cII, 8, .inr (.inr (.inr (.inr (zro rr))))))] ++ (zr8 cI rr (fun _ _ => 0) ++ ([(q19, .inl (cI, 8, .inl (fun _ => 0)))] ++ [])))) H := hP
  have hD : va_D A ([(o, .inr (0, [.ref (q9), .ref (q19), .null, .int 0, .int 0, .int 0, .int 0]))] ++ ([(q9, .inl (cII, 8, .inr (.inr (.inr (.inr (zro rr))))))] ++ (zr8 cI rr (fun _ _ => 0) ++ ([(q19, .inl (cI, 8, .inl (fun _ => 0)))] ++ [])))) := hD
  refine lv_aload_n hx hb dX0_init_24 rfl (lv_at hl 0 rfl) ?_
  refine lv_bipush (v := 8) hx hb dX0_init_25 (by decide) ?_
  refine z_newa (atype := .int) (ty := .int) (a0 := (8, .inl (fun _ => 0))) (N' := 8) hx hb (hts (.arrayClass .int) (by decide +kernel)) rfl 0 rfl (fun _ h => by cases h) hK hP hD hS hA (fun _ => rfl) (by decide) (by decide) (Nat.le_of_ble_eq_true rfl) (Nat.le_of_ble_eq_true rfl) (Nat.le_of_ble_eq_true rfl) dX0_init_27 (fun q27 H hP hD hS => ?_)
  have hP : va_P D vwCl ([(o, .inr (0, [.ref (q9), .ref (q19), .null, .int 0, .int 0, .int 0, .int 0]))] ++ ([(q9, .inl (cII, 8, .inr (.inr (.inr (.inr (zro rr))))))] ++ (zr8 cI rr (fun _ _ => 0) ++ ([(q19, .inl (cI, 8, .inl (fun _ => 0)))] ++ ([(q27, .inl (cI, 8, .inl (fun _ => 0)))] ++ []))))) H := by simpa only [List.append_assoc, List.nil_append, List.append_nil, List.cons_append] using hP
  have hD : va_D A ([(o, .inr (0, [.ref (q9), .ref (q19), .null, .int 0, .int 0, .int 0, .int 0]))] ++ ([(q9, .inl (cII, 8, .inr (.inr (.inr (.inr (zro rr))))))] ++ (zr8 cI rr (fun _ _ => 0) ++ ([(q19, .inl (cI, 8, .inl (fun _ => 0)))] ++ ([(q27, .inl (cI, 8, .inl (fun _ => 0)))] ++ []))))) := by simpa only [List.append_assoc, List.nil_append, List.append_nil, List.cons_append] using hD
  refine va_putF (D := D) (ci := 0) (v := .ref (q27)) (ty := .array .int) (C := RX0) (T := TX0) (N := 7) hx hb hts inX0 tyX0 tyX0_ok nmX0 hown hK hP hD hS 0 rfl rfl 2 (by decide) (hts (.fieldLink RX0 20 "TraceCache$Cache" "useNumbers" "[I") (by decide +kernel)) (fun _ h9 => h9) rfl hin rfl (by decide +kernel) rfl rfl (Nat.le_of_ble_eq_true rfl) dX0_init_29 (fun H locs hP hD hS => ?_)
  have hP : va_P D vwCl ([(o, .inr (0, [.ref (q9), .ref (q19), .ref (q27), .int 0, .int 0, .int 0, .int 0]))] ++ ([(q9, .inl (cII, 8, .inr (.inr (.inr (.inr (zro rr))))))] ++ (zr8 cI rr (fun _ _ => 0) ++ ([(q19, .inl (cI, 8, .inl (fun _ => 0)))] ++ ([(q27, .inl (cI, 8, .inl (fun _ => 0)))] ++ []))))) H := hP
  have hD : va_D A ([(o, .inr (0, [.ref (q9), .ref (q19), .ref (q27), .int 0, .int 0, .int 0, .int 0]))] ++ ([(q9, .inl (cII, 8, .inr (.inr (.inr (.inr (zro rr))))))] ++ (zr8 cI rr (fun _ _ => 0) ++ ([(q19, .inl (cI, 8, .inl (fun _ => 0)))] ++ ([(q27, .inl (cI, 8, .inl (fun _ => 0)))] ++ []))))) := hD
  have hP := P_swap (w := [(o, .inr (0, [.ref (q9), .ref (q19), .ref (q27), .int 0, .int 0, .int 0, .int 0]))] ++ ([(q9, .inl (cII, 8, .inr (.inr (.inr (.inr (zro rr))))))] ++ (zr8 cI rr (fun _ _ => 0) ++ ([(q19, .inl (cI, 8, .inl (fun _ => 0)))] ++ ([(q27, .inl (cI, 8, .inl (fun _ => 0)))] ++ []))))) (w' := [(o, .inr (0, [.ref (q9), .ref (q19), .ref (q27), .int 0, .int 0, .int 0, .int 0]))] ++ ([(q9, .inl (cII, 8, .inr (.inr (.inr (.inr (zro rr))))))] ++ ([(q19, .inl (cI, 8, .inl (fun _ => 0)))] ++ (zr8 cI rr (fun _ _ => 0) ++ ([(q27, .inl (cI, 8, .inl (fun _ => 0)))] ++ []))))) (x := [(o, .inr (0, [.ref (q9), .ref (q19), .ref (q27), .int 0, .int 0, .int 0, .int 0]))] ++ [(q9, .inl (cII, 8, .inr (.inr (.inr (.inr (zro rr))))))]) (a := zr8 cI rr (fun _ _ => 0)) (b := [(q19, .inl (cI, 8, .inl (fun _ => 0)))]) (y := [(q27, .inl (cI, 8, .inl (fun _ => 0)))] ++ []) (by simp only [List.append_assoc, List.nil_append, List.append_nil, List.cons_append]) (by simp only [List.append_assoc, List.nil_append, List.append_nil, List.cons_append]) hP
  have hD := D_swap (w := [(o, .inr (0, [.ref (q9), .ref (q19), .ref (q27), .int 0, .int 0, .int 0, .int 0]))] ++ ([(q9, .inl (cII, 8, .inr (.inr (.inr (.inr (zro rr))))))] ++ (zr8 cI rr (fun _ _ => 0) ++ ([(q19, .inl (cI, 8, .inl (fun _ => 0)))] ++ ([(q27, .inl (cI, 8, .inl (fun _ => 0)))] ++ []))))) (w' := [(o, .inr (0, [.ref (q9), .ref (q19), .ref (q27), .int 0, .int 0, .int 0, .int 0]))] ++ ([(q9, .inl (cII, 8, .inr (.inr (.inr (.inr (zro rr))))))] ++ ([(q19, .inl (cI, 8, .inl (fun _ => 0)))] ++ (zr8 cI rr (fun _ _ => 0) ++ ([(q27, .inl (cI, 8, .inl (fun _ => 0)))] ++ []))))) (x := [(o, .inr (0, [.ref (q9), .ref (q19), .ref (q27), .int 0, .int 0, .int 0, .int 0]))] ++ [(q9, .inl (cII, 8, .inr (.inr (.inr (.inr (zro rr))))))]) (a := zr8 cI rr (fun _ _ => 0)) (b := [(q19, .inl (cI, 8, .inl (fun _ => 0)))]) (y := [(q27, .inl (cI, 8, .inl (fun _ => 0)))] ++ []) (by simp only [List.append_assoc, List.nil_append, List.append_nil, List.cons_append]) (by simp only [List.append_assoc, List.nil_append, List.append_nil, List.cons_append]) hD
  have hP := P_swap (w := [(o, .inr (0, [.ref (q9), .ref (q19), .ref (q27), .int 0, .int 0, .int 0, .int 0]))] ++ ([(q9, .inl (cII, 8, .inr (.inr (.inr (.inr (zro rr))))))] ++ ([(q19, .inl (cI, 8, .inl (fun _ => 0)))] ++ (zr8 cI rr (fun _ _ => 0) ++ ([(q27, .inl (cI, 8, .inl (fun _ => 0)))] ++ []))))) (w' := [(o, .inr (0, [.ref (q9), .ref (q19), .ref (q27), .int 0, .int 0, .int 0, .int 0]))] ++ ([(q9, .inl (cII, 8, .inr (.inr (.inr (.inr (zro rr))))))] ++ ([(q19, .inl (cI, 8, .inl (fun _ => 0)))] ++ ([(q27, .inl (cI, 8, .inl (fun _ => 0)))] ++ (zr8 cI rr (fun _ _ => 0) ++ []))))) (x := [(o, .inr (0, [.ref (q9), .ref (q19), .ref (q27), .int 0, .int 0, .int 0, .int 0]))] ++ ([(q9, .inl (cII, 8, .inr (.inr (.inr (.inr (zro rr))))))] ++ [(q19, .inl (cI, 8, .inl (fun _ => 0)))])) (a := zr8 cI rr (fun _ _ => 0)) (b := [(q27, .inl (cI, 8, .inl (fun _ => 0)))]) (y := []) (by simp only [List.append_assoc, List.nil_append, List.append_nil, List.cons_append]) (by simp only [List.append_assoc, List.nil_append, List.append_nil, List.cons_append]) hP
  have hD := D_swap (w := [(o, .inr (0, [.ref (q9), .ref (q19), .ref (q27), .int 0, .int 0, .int 0, .int 0]))] ++ ([(q9, .inl (cII, 8, .inr (.inr (.inr (.inr (zro rr))))))] ++ ([(q19, .inl (cI, 8, .inl (fun _ => 0)))] ++ (zr8 cI rr (fun _ _ => 0) ++ ([(q27, .inl (cI, 8, .inl (fun _ => 0)))] ++ []))))) (w' := [(o, .inr (0, [.ref (q9), .ref (q19), .ref (q27), .int 0, .int 0, .int 0, .int 0]))] ++ ([(q9, .inl (cII, 8, .inr (.inr (.inr (.inr (zro rr))))))] ++ ([(q19, .inl (cI, 8, .inl (fun _ => 0)))] ++ ([(q27, .inl (cI, 8, .inl (fun _ => 0)))] ++ (zr8 cI rr (fun _ _ => 0) ++ []))))) (x := [(o, .inr (0, [.ref (q9), .ref (q19), .ref (q27), .int 0, .int 0, .int 0, .int 0]))] ++ ([(q9, .inl (cII, 8, .inr (.inr (.inr (.inr (zro rr))))))] ++ [(q19, .inl (cI, 8, .inl (fun _ => 0)))])) (a := zr8 cI rr (fun _ _ => 0)) (b := [(q27, .inl (cI, 8, .inl (fun _ => 0)))]) (y := []) (by simp only [List.append_assoc, List.nil_append, List.append_nil, List.cons_append]) (by simp only [List.append_assoc, List.nil_append, List.append_nil, List.cons_append]) hD
  exact hret ((zf [o, q9, q19, q27], rr)) _ _ _ _ _ _ dX0_init_32 rfl (Nat.le_of_ble_eq_true rfl) (Nat.le_of_ble_eq_true rfl) hP hD hS

def m_X4_init_54 : Nat → (Nat → Int32) → (Nat → Int32) → (Int32) → Option ((Nat → Int32) × (Nat → Int32))
  | 0, _, _, _ => none
  | n54 + 1, P_lengths, P_counters, x1 => (if (48 : Int32) ≤ x1 then (some (P_lengths, P_counters)) else (gd (inb x1 48) (bd (upd P_lengths (Int32.toNatClampNeg x1) (1 : Int32)) (fun P_lengths_66 => (gd (inb x1 48) (bd (upd P_counters (Int32.toNatClampNeg x1) (1 : Int32)) (fun P_counters_73 => (bd (x1 + (1 : Int32)) (fun v74 => (m_X4_init_54 n54 P_lengths_66 P_counters_73 v74))))))))))
def m_X4_init : Option ((Nat → Int32) × (Nat → Int32)) := (m_X4_init_54 4000 (fun _ => 0) (fun _ => 0) (0 : Int32))
set_option maxHeartbeats 8000000 in
set_option maxRecDepth 100000 in
theorem c_X4_init (l : Launch) (D : va_G) (cI cZ cII cJ cM : ClassId) (o sz : Nat) (y : (Nat → Int32) × (Nat → Int32)) (hf : m_X4_init = some y) : Met l yX4_init wsX4_init ({ frames := 1, cells := 6, slots := 288, locals := 12 } : Room) (va_Pc [.ref o] (pzPreC D (zT cI cZ cII cJ cM) ([(o, .inr (4, [.null, .null, .null, .null, .null, .null, .int 0]))] ++ []) sz)) (va_Qv (fun (u : Nat → Nat) => u 0 = o) (fun u t => pzB D (zT cI cZ cII cJ cM) (va_A ([(o, .inr (4, [.null, .null, .null, .null, .null, .null, .int 0]))] ++ []) sz) (wX4 cI cZ cII u (fun _ => 0) (fun _ => 0) (fun _ => 0) y.1 (fun _ => 0) y.2 (0 : Int32) ++ []) t) (va_A ([(o, .inr (4, [.null, .null, .null, .null, .null, .null, .int 0]))] ++ []) sz)) 6 288 (va_A ([(o, .inr (4, [.null, .null, .null, .null, .null, .null, .int 0]))] ++ []) sz) := by
  refine z_metc (S := Nat → Nat) (post := fun u => u 0 = o) (w1 := fun u => wX4 cI cZ cII u (fun _ => 0) (fun _ => 0) (fun _ => 0) y.1 (fun _ => 0) y.2 (0 : Int32) ++ []) (cc := cX4_init) (maxL := 2) (by decide) rfl rfl (Nat.le_of_ble_eq_true rfl) ?_
  intro p e s m args below meth c A ls Q H locs F hC hin hP hD hS hl hret
  obtain ⟨hx, hb, hml, hown, hts, hN, hK, hA⟩ := F
  have hown : s.vm.findClass RX4 = some m.cls := hown
  have hl : lv_has ls 2 [(0, .ref o)] := hl
  have inX4 : ∀ w ∈ u_ws RX4 TX4 7, w ∈ wsX4_init := by decide +kernel
  refine lv_aload_n hx hb dX4_init_0 rfl (lv_at hl 0 rfl) ?_
  refine W.objInit hx hb hown (hts (.methodLink RX4 3 objectInit) (by decide +kernel)) (hts (.instanceMethod objectInit) (by decide +kernel)) (hts (.code objectInit ⟨#[0xb1]⟩ 1 none) (by decide +kernel)) rfl (by rw [hml]; exact hl.1) rfl dX4_init_1 (Nat.le_of_ble_eq_true rfl) (Nat.le_of_ble_eq_true rfl) ?_
  refine W.eq (g2 := F0 m 4 ls []) rfl ?_
  refine lv_aload_n hx hb dX4_init_4 rfl (lv_at hl 0 rfl) ?_
  refine lv_bipush (v := 48) hx hb dX4_init_5 (by decide) ?_
  refine z_newa (atype := .int) (ty := .int) (a0 := (48, .inl (fun _ => 0))) (N' := 48) hx hb (hts (.arrayClass .int) (by decide +kernel)) rfl 0 rfl (fun _ h => by cases h) hK hP hD hS hA (fun _ => rfl) (by decide) (by decide) (Nat.le_of_ble_eq_true rfl) (Nat.le_of_ble_eq_true rfl) (Nat.le_of_ble_eq_true rfl) dX4_init_7 (fun q7 H hP hD hS => ?_)
  have hP : va_P D vwCl ([(o, .inr (4, [.null, .null, .null, .null, .null, .null, .int 0]))] ++ ([(q7, .inl (cI, 48, .inl (fun _ => 0)))] ++ [])) H := by simpa only [List.append_assoc, List.nil_append, List.append_nil, List.cons_append] using hP
  have hD : va_D A ([(o, .inr (4, [.null, .null, .null, .null, .null, .null, .int 0]))] ++ ([(q7, .inl (cI, 48, .inl (fun _ => 0)))] ++ [])) := by simpa only [List.append_assoc, List.nil_append, List.append_nil, List.cons_append] using hD
  refine va_putF (D := D) (ci := 4) (v := .ref (q7)) (ty := .array .int) (C := RX4) (T := TX4) (N := 7) hx hb hts inX4 tyX4 tyX4_ok nmX4 hown hK hP hD hS 0 rfl rfl 0 (by decide) (hts (.fieldLink RX4 9 "TraceCache$Program" "kinds" "[I") (by decide +kernel)) (fun _ h9 => h9) rfl hin rfl (by decide +kernel) rfl rfl (Nat.le_of_ble_eq_true rfl) dX4_init_9 (fun H locs hP hD hS => ?_)
  have hP : va_P D vwCl ([(o, .inr (4, [.ref (q7), .null, .null, .null, .null, .null, .int 0]))] ++ ([(q7, .inl (cI, 48, .inl (fun _ => 0)))] ++ [])) H := hP
  have hD : va_D A ([(o, .inr (4, [.ref (q7), .null, .null, .null, .null, .null, .int 0]))] ++ ([(q7, .inl (cI, 48, .inl (fun _ => 0)))] ++ [])) := hD
  refine lv_aload_n hx hb dX4_init_12 rfl (lv_at hl 0 rfl) ?_
  refine lv_bipush (v := 48) hx hb dX4_init_13 (by decide) ?_
  refine z_newa (atype := .int) (ty := .int) (a0 := (48, .inl (fun _ => 0))) (N' := 48) hx hb (hts (.arrayClass .int) (by decide +kernel)) rfl 0 rfl (fun _ h => by cases h) hK hP hD hS hA (fun _ => rfl) (by decide) (by decide) (Nat.le_of_ble_eq_true rfl) (Nat.le_of_ble_eq_true rfl) (Nat.le_of_ble_eq_true rfl) dX4_init_15 (fun q15 H hP hD hS => ?_)
  have hP : va_P D vwCl ([(o, .inr (4, [.ref (q7), .null, .null, .null, .null, .null, .int 0]))] ++ ([(q7, .inl (cI, 48, .inl (fun _ => 0)))] ++ ([(q15, .inl (cI, 48, .inl (fun _ => 0)))] ++ []))) H := by simpa only [List.append_assoc, List.nil_append, List.append_nil, List.cons_append] using hP
  have hD : va_D A ([(o, .inr (4, [.ref (q7), .null, .null, .null, .null, .null, .int 0]))] ++ ([(q7, .inl (cI, 48, .inl (fun _ => 0)))] ++ ([(q15, .inl (cI, 48, .inl (fun _ => 0)))] ++ []))) := by simpa only [List.append_assoc, List.nil_append, List.append_nil, List.cons_append] using hD
  refine va_putF (D := D) (ci := 4) (v := .ref (q15)) (ty := .array .int) (C := RX4) (T := TX4) (N := 7) hx hb hts inX4 tyX4 tyX4_ok nmX4 hown hK hP hD hS 0 rfl rfl 1 (by decide) (hts (.fieldLink RX4 15 "TraceCache$Program" "targets" "[I") (by decide +kernel)) (fun _ h9 => h9) rfl hin rfl (by decide +kernel) rfl rfl (Nat.le_of_ble_eq_true rfl) dX4_init_17 (fun H locs hP hD hS => ?_)
  have hP : va_P D vwCl ([(o, .inr (4, [.ref (q7), .ref (q15), .null, .null, .null, .null, .int 0]))] ++ ([(q7, .inl (cI, 48, .inl (fun _ => 0)))] ++ ([(q15, .inl (cI, 48, .inl (fun _ => 0)))] ++ []))) H := hP
  have hD : va_D A ([(o, .inr (4, [.ref (q7), .ref (q15), .null, .null, .null, .null, .int 0]))] ++ ([(q7, .inl (cI, 48, .inl (fun _ => 0)))] ++ ([(q15, .inl (cI, 48, .inl (fun _ => 0)))] ++ []))) := hD
  refine lv_aload_n hx hb dX4_init_20 rfl (lv_at hl 0 rfl) ?_
  refine lv_bipush (v := 48) hx hb dX4_init_21 (by decide) ?_
  refine z_newa (atype := .int) (ty := .int) (a0 := (48, .inl (fun _ => 0))) (N' := 48) hx hb (hts (.arrayClass .int) (by decide +kernel)) rfl 0 rfl (fun _ h => by cases h) hK hP hD hS hA (fun _ => rfl) (by decide) (by decide) (Nat.le_of_ble_eq_true rfl) (Nat.le_of_ble_eq_true rfl) (Nat.le_of_ble_eq_true rfl) dX4_init_23 (fun q23 H hP hD hS => ?_)
  have hP : va_P D vwCl ([(o, .inr (4, [.ref (q7), .ref (q15), .null, .null, .null, .null, .int 0]))] ++ ([(q7, .inl (cI, 48, .inl (fun _ => 0)))] ++ ([(q15, .inl (cI, 48, .inl (fun _ => 0)))] ++ ([(q23, .inl (cI, 48, .inl (fun _ => 0)))] ++ [])))) H := by simpa only [List.append_assoc, List.nil_append, List.append_nil, List.cons_append] using hP
  have hD : va_D A ([(o, .inr (4, [.ref (q7), .ref (q15), .null, .null, .null, .null, .int 0]))] ++ ([(q7, .inl (cI, 48, .inl (fun _ => 0)))] ++ ([(q15, .inl (cI, 48, .inl (fun _ => 0)))] ++ ([(q23, .inl (cI, 48, .inl (fun _ => 0)))] ++ [])))) := by simpa only [List.append_assoc, List.nil_append, List.append_nil, List.cons_append] using hD
  refine va_putF (D := D) (ci := 4) (v := .ref (q23)) (ty := .array .int) (C := RX4) (T := TX4) (N := 7) hx hb hts inX4 tyX4 tyX4_ok nmX4 hown hK hP hD hS 0 rfl rfl 2 (by decide) (hts (.fieldLink RX4 18 "TraceCache$Program" "outcomes" "[I") (by decide +kernel)) (fun _ h9 => h9) rfl hin rfl (by decide +kernel) rfl rfl (Nat.le_of_ble_eq_true rfl) dX4_init_25 (fun H locs hP hD hS => ?_)
  have hP : va_P D vwCl ([(o, .inr (4, [.ref (q7), .ref (q15), .ref (q23), .null, .null, .null, .int 0]))] ++ ([(q7, .inl (cI, 48, .inl (fun _ => 0)))] ++ ([(q15, .inl (cI, 48, .inl (fun _ => 0)))] ++ ([(q23, .inl (cI, 48, .inl (fun _ => 0)))] ++ [])))) H := hP
  have hD : va_D A ([(o, .inr (4, [.ref (q7), .ref (q15), .ref (q23), .null, .null, .null, .int 0]))] ++ ([(q7, .inl (cI, 48, .inl (fun _ => 0)))] ++ ([(q15, .inl (cI, 48, .inl (fun _ => 0)))] ++ ([(q23, .inl (cI, 48, .inl (fun _ => 0)))] ++ [])))) := hD
  refine lv_aload_n hx hb dX4_init_28 rfl (lv_at hl 0 rfl) ?_
  refine lv_bipush (v := 48) hx hb dX4_init_29 (by decide) ?_
  refine z_newa (atype := .int) (ty := .int) (a0 := (48, .inl (fun _ => 0))) (N' := 48) hx hb (hts (.arrayClass .int) (by decide +kernel)) rfl 0 rfl (fun _ h => by cases h) hK hP hD hS hA (fun _ => rfl) (by decide) (by decide) (Nat.le_of_ble_eq_true rfl) (Nat.le_of_ble_eq_true rfl) (Nat.le_of_ble_eq_true rfl) dX4_init_31 (fun q31 H hP hD hS => ?_)
  have hP : va_P D vwCl ([(o, .inr (4, [.ref (q7), .ref (q15), .ref (q23), .null, .null, .null, .int 0]))] ++ ([(q7, .inl (cI, 48, .inl (fun _ => 0)))] ++ ([(q15, .inl (cI, 48, .inl (fun _ => 0)))] ++ ([(q23, .inl (cI, 48, .inl (fun _ => 0)))] ++ ([(q31, .inl (cI, 48, .inl (fun _ => 0)))] ++ []))))) H := by simpa only [List.append_assoc, List.nil_append, List.append_nil, List.cons_append] using hP
  have hD : va_D A ([(o, .inr (4, [.ref (q7), .ref (q15), .ref (q23), .null, .null, .null, .int 0]))] ++ ([(q7, .inl (cI, 48, .inl (fun _ => 0)))] ++ ([(q15, .inl (cI, 48, .inl (fun _ => 0)))] ++ ([(q23, .inl (cI, 48, .inl (fun _ => 0)))] ++ ([(q31, .inl (cI, 48, .inl (fun _ => 0)))] ++ []))))) := by simpa only [List.append_assoc, List.nil_append, List.append_nil, List.cons_append] using hD
  refine va_putF (D := D) (ci := 4) (v := .ref (q31)) (ty := .array .int) (C := RX4) (T := TX4) (N := 7) hx hb hts inX4 tyX4 tyX4_ok nmX4 hown hK hP hD hS 0 rfl rfl 3 (by decide) (hts (.fieldLink RX4 21 "TraceCache$Program" "lengths" "[I") (by decide +kernel)) (fun _ h9 => h9) rfl hin rfl (by decide +kernel) rfl rfl (Nat.le_of_ble_eq_true rfl) dX4_init_33 (fun H locs hP hD hS => ?_)
  have hP : va_P D vwCl ([(o, .inr (4, [.ref (q7), .ref (q15), .ref (q23), .ref (q31), .null, .null, .int 0]))] ++ ([(q7, .inl (cI, 48, .inl (fun _ => 0)))] ++ ([(q15, .inl (cI, 48, .inl (fun _ => 0)))] ++ ([(q23, .inl (cI, 48, .inl (fun _ => 0)))] ++ ([(q31, .inl (cI, 48, .inl (fun _ => 0)))] ++ []))))) H := hP
  have hD : va_D A ([(o, .inr (4, [.ref (q7), .ref (q15), .ref (q23), .ref (q31), .null, .null, .int 0]))] ++ ([(q7, .inl (cI, 48, .inl (fun _ => 0)))] ++ ([(q15, .inl (cI, 48, .inl (fun _ => 0)))] ++ ([(q23, .inl (cI, 48, .inl (fun _ => 0)))] ++ ([(q31, .inl (cI, 48, .inl (fun _ => 0)))] ++ []))))) := hD
  refine lv_aload_n hx hb dX4_init_36 rfl (lv_at hl 0 rfl) ?_
  refine lv_bipush (v := 48) hx hb dX4_init_37 (by decide) ?_
  refine z_newa (atype := .int) (ty := .int) (a0 := (48, .inl (fun _ => 0))) (N' := 48) hx hb (hts (.arrayClass .int) (by decide +kernel)) rfl 0 rfl (fun _ h => by cases h) hK hP hD hS hA (fun _ => rfl) (by decide) (by decide) (Nat.le_of_ble_eq_true rfl) (Nat.le_of_ble_eq_true rfl) (Nat.le_of_ble_eq_true rfl) dX4_init_39 (fun q39 H hP hD hS => ?_)
  have hP : va_P D vwCl ([(o, .inr (4, [.ref (q7), .ref (q15), .ref (q23), .ref (q31), .null, .null, .int 0]))] ++ ([(q7, .inl (cI, 48, .inl (fun _ => 0)))] ++ ([(q15, .inl (cI, 48, .inl (fun _ => 0)))] ++ ([(q23, .inl (cI, 48, .inl (fun _ => 0)))] ++ ([(q31, .inl (cI, 48, .inl (fun _ => 0)))] ++ ([(q39, .inl (cI, 48, .inl (fun _ => 0)))] ++ [])))))) H := by simpa only [List.append_assoc, List.nil_append, List.append_nil, List.cons_append] using hP
  have hD : va_D A ([(o, .inr (4, [.ref (q7), .ref (q15), .ref (q23), .ref (q31), .null, .null, .int 0]))] ++ ([(q7, .inl (cI, 48, .inl (fun _ => 0)))] ++ ([(q15, .inl (cI, 48, .inl (fun _ => 0)))] ++ ([(q23, .inl (cI, 48, .inl (fun _ => 0)))] ++ ([(q31, .inl (cI, 48, .inl (fun _ => 0)))] ++ ([(q39, .inl (cI, 48, .inl (fun _ => 0)))] ++ [])))))) := by simpa only [List.append_assoc, List.nil_append, List.append_nil, List.cons_append] using hD
  refine va_putF (D := D) (ci := 4) (v := .ref (q39)) (ty := .array .int) (C := RX4) (T := TX4) (N := 7) hx hb hts inX4 tyX4 tyX4_ok nmX4 hown hK hP hD hS 0 rfl rfl 4 (by decide) (hts (.fieldLink RX4 24 "TraceCache$Program" "outcomeCounts" "[I") (by decide +kernel)) (fun _ h9 => h9) rfl hin rfl (by decide +kernel) rfl rfl (Nat.le_of_ble_eq_true rfl) dX4_init_41 (fun H locs hP hD hS => ?_)
  have hP : va_P D vwCl ([(o, .inr (4, [.ref (q7), .ref (q15), .ref (q23), .ref (q31), .ref (q39), .null, .int 0]))] ++ ([(q7, .inl (cI, 48, .inl (fun _ => 0)))] ++ ([(q15, .inl (cI, 48, .inl (fun _ => 0)))] ++ ([(q23, .inl (cI, 48, .inl (fun _ => 0)))] ++ ([(q31, .inl (cI, 48, .inl (fun _ => 0)))] ++ ([(q39, .inl (cI, 48, .inl (fun _ => 0)))] ++ [])))))) H := hP
  have hD : va_D A ([(o, .inr (4, [.ref (q7), .ref (q15), .ref (q23), .ref (q31), .ref (q39), .null, .int 0]))] ++ ([(q7, .inl (cI, 48, .inl (fun _ => 0)))] ++ ([(q15, .inl (cI, 48, .inl (fun _ => 0)))] ++ ([(q23, .inl (cI, 48, .inl (fun _ => 0)))] ++ ([(q31, .inl (cI, 48, .inl (fun _ => 0)))] ++ ([(q39, .inl (cI, 48, .inl (fun _ => 0)))] ++ [])))))) := hD
  refine lv_aload_n hx hb dX4_init_44 rfl (lv_at hl 0 rfl) ?_
  refine lv_bipush (v := 48) hx hb dX4_init_45 (by decide) ?_
  refine z_newa (atype := .int) (ty := .int) (a0 := (48, .inl (fun _ => 0))) (N' := 48) hx hb (hts (.arrayClass .int) (by decide +kernel)) rfl 0 rfl (fun _ h => by cases h) hK hP hD hS hA (fun _ => rfl) (by decide) (by decide) (Nat.le_of_ble_eq_true rfl) (Nat.le_of_ble_eq_true rfl) (Nat.le_of_ble_eq_true rfl) dX4_init_47 (fun q47 H hP hD hS => ?_)
  have hP : va_P D vwCl ([(o, .inr (4, [.ref (q7), .ref (q15), .ref (q23), .ref (q31), .ref (q39), .null, .int 0]))] ++ ([(q7, .inl (cI, 48, .inl (fun _ => 0)))] ++ ([(q15, .inl (cI, 48, .inl (fun _ => 0)))] ++ ([(q23, .inl (cI, 48, .inl (fun _ => 0)))] ++ ([(q31, .inl (cI, 48, .inl (fun _ => 0)))] ++ ([(q39, .inl (cI, 48, .inl (fun _ => 0)))] ++ ([(q47, .inl (cI, 48, .inl (fun _ => 0)))] ++ []))))))) H := by simpa only [List.append_assoc, List.nil_append, List.append_nil, List.cons_append] using hP
  have hD : va_D A ([(o, .inr (4, [.ref (q7), .ref (q15), .ref (q23), .ref (q31), .ref (q39), .null, .int 0]))] ++ ([(q7, .inl (cI, 48, .inl (fun _ => 0)))] ++ ([(q15, .inl (cI, 48, .inl (fun _ => 0)))] ++ ([(q23, .inl (cI, 48, .inl (fun _ => 0)))] ++ ([(q31, .inl (cI, 48, .inl (fun _ => 0)))] ++ ([(q39, .inl (cI, 48, .inl (fun _ => 0)))] ++ ([(q47, .inl (cI, 48, .inl (fun _ => 0)))] ++ []))))))) := by simpa only [List.append_assoc, List.nil_append, List.append_nil, List.cons_append] using hD
  refine va_putF (D := D) (ci := 4) (v := .ref (q47)) (ty := .array .int) (C := RX4) (T := TX4) (N := 7) hx hb hts inX4 tyX4 tyX4_ok nmX4 hown hK hP hD hS 0 rfl rfl 5 (by decide) (hts (.fieldLink RX4 27 "TraceCache$Program" "counters" "[I") (by decide +kernel)) (fun _ h9 => h9) rfl hin rfl (by decide +kernel) rfl rfl (Nat.le_of_ble_eq_true rfl) dX4_init_49 (fun H locs hP hD hS => ?_)
  have hP : va_P D vwCl ([(o, .inr (4, [.ref (q7), .ref (q15), .ref (q23), .ref (q31), .ref (q39), .ref (q47), .int 0]))] ++ ([(q7, .inl (cI, 48, .inl (fun _ => 0)))] ++ ([(q15, .inl (cI, 48, .inl (fun _ => 0)))] ++ ([(q23, .inl (cI, 48, .inl (fun _ => 0)))] ++ ([(q31, .inl (cI, 48, .inl (fun _ => 0)))] ++ ([(q39, .inl (cI, 48, .inl (fun _ => 0)))] ++ ([(q47, .inl (cI, 48, .inl (fun _ => 0)))] ++ []))))))) H := hP
  have hD : va_D A ([(o, .inr (4, [.ref (q7), .ref (q15), .ref (q23), .ref (q31), .ref (q39), .ref (q47), .int 0]))] ++ ([(q7, .inl (cI, 48, .inl (fun _ => 0)))] ++ ([(q15, .inl (cI, 48, .inl (fun _ => 0)))] ++ ([(q23, .inl (cI, 48, .inl (fun _ => 0)))] ++ ([(q31, .inl (cI, 48, .inl (fun _ => 0)))] ++ ([(q39, .inl (cI, 48, .inl (fun _ => 0)))] ++ ([(q47, .inl (cI, 48, .inl (fun _ => 0)))] ++ []))))))) := hD
  obtain ⟨aP, haP⟩ : ∃ z : Nat → Nat, z = zf [o, q7, q15, q23, q31, q39, q47] := ⟨_, rfl⟩
  have ho : o = aP 0 := by rw [haP]; rfl
  have hl : lv_has ls 2 [(0, .ref (aP 0))] := by rw [← ho]; exact hl
  have hP : va_P D vwCl (wX4 cI cZ cII aP (fun _ => 0) (fun _ => 0) (fun _ => 0) (fun _ => 0) (fun _ => 0) (fun _ => 0) (0 : Int32) ++ []) H := by rw [haP]; exact hP
  have hD : va_D A (wX4 cI cZ cII aP (fun _ => 0) (fun _ => 0) (fun _ => 0) (fun _ => 0) (fun _ => 0) (fun _ => 0) (0 : Int32) ++ []) := by rw [haP]; exact hD
  have kX4_21 := hts (.fieldLink RX4 21 "TraceCache$Program" "lengths" "[I") (by decide +kernel)
  have kX4_27 := hts (.fieldLink RX4 27 "TraceCache$Program" "counters" "[I") (by decide +kernel)
  have J54 : ∀ (n54 : Nat), ∀ (P_lengths : Nat → Int32) (P_counters : Nat → Int32) (x1 : Int32) (H : Heap) (locs : List Loc) (ls : Array Slot), m_X4_init_54 n54 P_lengths P_counters x1 = some y → va_P D vwCl (wX4 cI cZ cII aP (fun _ => 0) (fun _ => 0) (fun _ => 0) P_lengths (fun _ => 0) P_counters (0 : Int32) ++ []) H → va_D A (wX4 cI cZ cII aP (fun _ => 0) (fun _ => 0) (fun _ => 0) P_lengths (fun _ => 0) P_counters (0 : Int32) ++ []) → va_S A s.heap H locs → lv_has ls 2 [(0, .ref (aP 0)), (1, .int x1)] → W p l e ({ frames := 1, cells := 6, slots := 288, locals := 12 } : Room) s m args below meth c H locs 6 288 Q (F0 m 54 ls []) := by
    intro n54
    induction n54 with
    | zero =>
      intro P_lengths P_counters x1 H locs ls hf hP hD hS hl
      rw [m_X4_init_54] at hf
      cases hf
    | succ n54 ih54 =>
      intro P_lengths P_counters x1 H locs ls hf hP hD hS hl
      rw [m_X4_init_54] at hf
      refine lv_iload_n hx hb dX4_init_54 rfl (lv_at hl 1 rfl) ?_
      refine lv_bipush (v := 48) hx hb dX4_init_55 (by decide) ?_
      refine lv_icmp_ge (tgt := 80) hx hb dX4_init_57 (by decide) (fun c57 => ?_) (fun c57 => ?_)
      · have hf := if_t c57 hf
        obtain rfl := Option.some.inj hf
        exact hret aP _ _ _ _ _ _ dX4_init_80 ho.symm (Nat.le_of_ble_eq_true rfl) (Nat.le_of_ble_eq_true rfl) hP hD hS
      · have hf := if_f c57 hf
        refine lv_aload_n hx hb dX4_init_60 rfl (lv_at hl 0 rfl) ?_
        refine va_get (D := D) (ci := 4) (v := .ref (aP 4)) (C := RX4) (T := TX4) (N := 7) hx hb hts inX4 hown hK hP 0 rfl rfl 3 (by decide) kX4_21 (fun _ h9 => h9) rfl dX4_init_61 ?_
        refine lv_iload_n hx hb dX4_init_64 rfl (lv_at hl 1 rfl) ?_
        refine lv_iconst (v := 1) hx hb dX4_init_65 (by decide) ?_
        obtain ⟨g66, hf⟩ := gd_t hf
        refine va_iast hx hb hK hP hD hS 4 0 rfl rfl (inb_t g66) dX4_init_66 (fun H locs hP hD hS => ?_)
        obtain ⟨P_lengths_66, eP_lengths_66⟩ : ∃ z : Nat → Int32, z = upd P_lengths (Int32.toNatClampNeg x1) (1 : Int32) := ⟨_, rfl⟩
        have hf := bd_t eP_lengths_66 hf
        have hP : va_P D vwCl (wX4 cI cZ cII aP (fun _ => 0) (fun _ => 0) (fun _ => 0) P_lengths_66 (fun _ => 0) P_counters (0 : Int32) ++ []) H := by rw [eP_lengths_66]; exact hP
        have hD : va_D A (wX4 cI cZ cII aP (fun _ => 0) (fun _ => 0) (fun _ => 0) P_lengths_66 (fun _ => 0) P_counters (0 : Int32) ++ []) := by rw [eP_lengths_66]; exact hD
        refine lv_aload_n hx hb dX4_init_67 rfl (lv_at hl 0 rfl) ?_
        refine va_get (D := D) (ci := 4) (v := .ref (aP 6)) (C := RX4) (T := TX4) (N := 7) hx hb hts inX4 hown hK hP 0 rfl rfl 5 (by decide) kX4_27 (fun _ h9 => h9) rfl dX4_init_68 ?_
        refine lv_iload_n hx hb dX4_init_71 rfl (lv_at hl 1 rfl) ?_
        refine lv_iconst (v := 1) hx hb dX4_init_72 (by decide) ?_
        obtain ⟨g73, hf⟩ := gd_t hf
        refine va_iast hx hb hK hP hD hS 6 0 rfl rfl (inb_t g73) dX4_init_73 (fun H locs hP hD hS => ?_)
        obtain ⟨P_counters_73, eP_counters_73⟩ : ∃ z : Nat → Int32, z = upd P_counters (Int32.toNatClampNeg x1) (1 : Int32) := ⟨_, rfl⟩
        have hf := bd_t eP_counters_73 hf
        have hP : va_P D vwCl (wX4 cI cZ cII aP (fun _ => 0) (fun _ => 0) (fun _ => 0) P_lengths_66 (fun _ => 0) P_counters_73 (0 : Int32) ++ []) H := by rw [eP_counters_73]; exact hP
        have hD : va_D A (wX4 cI cZ cII aP (fun _ => 0) (fun _ => 0) (fun _ => 0) P_lengths_66 (fun _ => 0) P_counters_73 (0 : Int32) ++ []) := by rw [eP_counters_73]; exact hD
        obtain ⟨v74, ev74⟩ : ∃ z : Int32, z = x1 + (1 : Int32) := ⟨_, rfl⟩
        have hf := bd_t ev74 hf
        refine lv_iinc (v := v74) (lv' := [(1, .int v74), (0, .ref (aP 0))]) hx hb dX4_init_74 hl (k := 1) rfl (by rw [ev74]; rfl) (by decide) rfl (fun ls hl => ?_)
        refine lv_goto (tgt := 54) hx hb dX4_init_77 (by decide) ?_
        exact ih54 P_lengths_66 P_counters_73 v74 _ _ _ hf hP hD hS (lv_sub hl [1, 0] rfl)
  unfold m_X4_init at hf
  refine lv_iconst (v := 0) hx hb dX4_init_52 (by decide) ?_
  refine lv_istore_n (lv' := [(1, .int (0 : Int32)), (0, .ref (aP 0))]) hx hb dX4_init_53 rfl hl (by decide) rfl (fun ls hl => ?_)
  exact J54 4000 (fun _ => 0) (fun _ => 0) (0 : Int32) _ _ _ hf hP hD hS (lv_sub hl [1, 0] rfl)

def m_X7_init_57 : Nat → (Nat → Int32) → (Int32) → Option ((Nat → Int32))
  | 0, _, _ => none
  | n57 + 1, S_s, x1 => (if (48 : Int32) ≤ x1 then (some (S_s)) else (bn (m_X7_of x1 (3 : Int32)) (fun y69 => (gd (inb y69 389) (bd (upd S_s (Int32.toNatClampNeg y69) (1 : Int32)) (fun S_s_73 => (bn (m_X7_of x1 (5 : Int32)) (fun y80 => (gd (inb y80 389) (bd (upd S_s_73 (Int32.toNatClampNeg y80) (1 : Int32)) (fun S_s_84 => (bd (x1 + (1 : Int32)) (fun v85 => (m_X7_init_57 n57 S_s_84 v85))))))))))))))
def m_X7_init : Option ((Nat → Int32)) := (m_X7_init_57 4000 (fun _ => 0) (0 : Int32))
set_option maxHeartbeats 8000000 in
set_option maxRecDepth 100000 in
theorem c_X7_init (l : Launch) (D : va_G) (cI cZ cII cJ cM : ClassId) (o sz : Nat) (y : (Nat → Int32)) (hf : m_X7_init = some y) : Met l yX7_init wsX7_init ({ frames := 1, cells := 6, slots := 3208, locals := 21 } : Room) (va_Pc [.ref o] (pzPreC D (zT cI cZ cII cJ cM) ([(o, .inr (7, [.int 0, .null, .null, .null, .int 0, .null, .int 0, .null, .null, .int 0, .int 0, .int 0, .int 0, .int 0]))] ++ []) sz)) (va_Qv (fun (u : Nat → Nat) => u 0 = o) (fun u t => pzB D (zT cI cZ cII cJ cM) (va_A ([(o, .inr (7, [.int 0, .null, .null, .null, .int 0, .null, .int 0, .null, .null, .int 0, .int 0, .int 0, .int 0, .int 0]))] ++ []) sz) (wX7 cI cZ cII u (0 : Int32) y (fun _ => 0) (fun _ => 0) (0 : Int32) (fun _ => 0) (0 : Int32) (fun _ => 0) (fun _ => 0) (0 : Int32) (0 : Int32) (0 : Int32) (0 : Int32) (0 : Int32) ++ []) t) (va_A ([(o, .inr (7, [.int 0, .null, .null, .null, .int 0, .null, .int 0, .null, .null, .int 0, .int 0, .int 0, .int 0, .int 0]))] ++ []) sz)) 6 3208 (va_A ([(o, .inr (7, [.int 0, .null, .null, .null, .int 0, .null, .int 0, .null, .null, .int 0, .int 0, .int 0, .int 0, .int 0]))] ++ []) sz) := by
  refine z_metc (S := Nat → Nat) (post := fun u => u 0 = o) (w1 := fun u => wX7 cI cZ cII u (0 : Int32) y (fun _ => 0) (fun _ => 0) (0 : Int32) (fun _ => 0) (0 : Int32) (fun _ => 0) (fun _ => 0) (0 : Int32) (0 : Int32) (0 : Int32) (0 : Int32) (0 : Int32) ++ []) (cc := cX7_init) (maxL := 2) (by decide) rfl rfl (Nat.le_of_ble_eq_true rfl) ?_
  intro p e s m args below meth c A ls Q H locs F hC hin hP hD hS hl hret
  obtain ⟨hx, hb, hml, hown, hts, hN, hK, hA⟩ := F
  have hown : s.vm.findClass RX7 = some m.cls := hown
  have hl : lv_has ls 2 [(0, .ref o)] := hl
  have inX7 : ∀ w ∈ u_ws RX7 TX7 14, w ∈ wsX7_init := by decide +kernel
  refine lv_aload_n hx hb dX7_init_0 rfl (lv_at hl 0 rfl) ?_
  refine W.objInit hx hb hown (hts (.methodLink RX7 1 objectInit) (by decide +kernel)) (hts (.instanceMethod objectInit) (by decide +kernel)) (hts (.code objectInit ⟨#[0xb1]⟩ 1 none) (by decide +kernel)) rfl (by rw [hml]; exact hl.1) rfl dX7_init_1 (Nat.le_of_ble_eq_true rfl) (Nat.le_of_ble_eq_true rfl) ?_
  refine W.eq (g2 := F0 m 4 ls []) rfl ?_
  refine lv_aload_n hx hb dX7_init_4 rfl (lv_at hl 0 rfl) ?_
  refine lv_sipush (v := 389) hx hb dX7_init_5 (by decide) ?_
  refine z_newa (atype := .int) (ty := .int) (a0 := (389, .inl (fun _ => 0))) (N' := 389) hx hb (hts (.arrayClass .int) (by decide +kernel)) rfl 0 rfl (fun _ h => by cases h) hK hP hD hS hA (fun _ => rfl) (by decide) (by decide) (Nat.le_of_ble_eq_true rfl) (Nat.le_of_ble_eq_true rfl) (Nat.le_of_ble_eq_true rfl) dX7_init_8 (fun q8 H hP hD hS => ?_)
  have hP : va_P D vwCl ([(o, .inr (7, [.int 0, .null, .null, .null, .int 0, .null, .int 0, .null, .null, .int 0, .int 0, .int 0, .int 0, .int 0]))] ++ ([(q8, .inl (cI, 389, .inl (fun _ => 0)))] ++ [])) H := by simpa only [List.append_assoc, List.nil_append, List.append_nil, List.cons_append] using hP
  have hD : va_D A ([(o, .inr (7, [.int 0, .null, .null, .null, .int 0, .null, .int 0, .null, .null, .int 0, .int 0, .int 0, .int 0, .int 0]))] ++ ([(q8, .inl (cI, 389, .inl (fun _ => 0)))] ++ [])) := by simpa only [List.append_assoc, List.nil_append, List.append_nil, List.cons_append] using hD
  refine va_putF (D := D) (ci := 7) (v := .ref (q8)) (ty := .array .int) (C := RX7) (T := TX7) (N := 14) hx hb hts inX7 tyX7 tyX7_ok nmX7 hown hK hP hD hS 0 rfl rfl 1 (by decide) (hts (.fieldLink RX7 7 "TraceCacheModel" "s" "[I") (by decide +kernel)) (fun _ h9 => h9) rfl hin rfl (by decide +kernel) rfl rfl (Nat.le_of_ble_eq_true rfl) dX7_init_10 (fun H locs hP hD hS => ?_)
  have hP : va_P D vwCl ([(o, .inr (7, [.int 0, .ref (q8), .null, .null, .int 0, .null, .int 0, .null, .null, .int 0, .int 0, .int 0, .int 0, .int 0]))] ++ ([(q8, .inl (cI, 389, .inl (fun _ => 0)))] ++ [])) H := hP
  have hD : va_D A ([(o, .inr (7, [.int 0, .ref (q8), .null, .null, .int 0, .null, .int 0, .null, .null, .int 0, .int 0, .int 0, .int 0, .int 0]))] ++ ([(q8, .inl (cI, 389, .inl (fun _ => 0)))] ++ [])) := hD
  refine lv_aload_n hx hb dX7_init_13 rfl (lv_at hl 0 rfl) ?_
  refine lv_sipush (v := 389) hx hb dX7_init_14 (by decide) ?_
  refine z_newa (atype := .int) (ty := .int) (a0 := (389, .inl (fun _ => 0))) (N' := 389) hx hb (hts (.arrayClass .int) (by decide +kernel)) rfl 0 rfl (fun _ h => by cases h) hK hP hD hS hA (fun _ => rfl) (by decide) (by decide) (Nat.le_of_ble_eq_true rfl) (Nat.le_of_ble_eq_true rfl) (Nat.le_of_ble_eq_true rfl) dX7_init_17 (fun q17 H hP hD hS => ?_)
  have hP : va_P D vwCl ([(o, .inr (7, [.int 0, .ref (q8), .null, .null, .int 0, .null, .int 0, .null, .null, .int 0, .int 0, .int 0, .int 0, .int 0]))] ++ ([(q8, .inl (cI, 389, .inl (fun _ => 0)))] ++ ([(q17, .inl (cI, 389, .inl (fun _ => 0)))] ++ []))) H := by simpa only [List.append_assoc, List.nil_append, List.append_nil, List.cons_append] using hP
  have hD : va_D A ([(o, .inr (7, [.int 0, .ref (q8), .null, .null, .int 0, .null, .int 0, .null, .null, .int 0, .int 0, .int 0, .int 0, .int 0]))] ++ ([(q8, .inl (cI, 389, .inl (fun _ => 0)))] ++ ([(q17, .inl (cI, 389, .inl (fun _ => 0)))] ++ []))) := by simpa only [List.append_assoc, List.nil_append, List.append_nil, List.cons_append] using hD
  refine va_putF (D := D) (ci := 7) (v := .ref (q17)) (ty := .array .int) (C := RX7) (T := TX7) (N := 14) hx hb hts inX7 tyX7 tyX7_ok nmX7 hown hK hP hD hS 0 rfl rfl 2 (by decide) (hts (.fieldLink RX7 13 "TraceCacheModel" "aside" "[I") (by decide +kernel)) (fun _ h9 => h9) rfl hin rfl (by decide +kernel) rfl rfl (Nat.le_of_ble_eq_true rfl) dX7_init_19 (fun H locs hP hD hS => ?_)
  have hP : va_P D vwCl ([(o, .inr (7, [.int 0, .ref (q8), .ref (q17), .null, .int 0, .null, .int 0, .null, .null, .int 0, .int 0, .int 0, .int 0, .int 0]))] ++ ([(q8, .inl (cI, 389, .inl (fun _ => 0)))] ++ ([(q17, .inl (cI, 389, .inl (fun _ => 0)))] ++ []))) H := hP
  have hD : va_D A ([(o, .inr (7, [.int 0, .ref (q8), .ref (q17), .null, .int 0, .null, .int 0, .null, .null, .int 0, .int 0, .int 0, .int 0, .int 0]))] ++ ([(q8, .inl (cI, 389, .inl (fun _ => 0)))] ++ ([(q17, .inl (cI, 389, .inl (fun _ => 0)))] ++ []))) := hD
  refine lv_aload_n hx hb dX7_init_22 rfl (lv_at hl 0 rfl) ?_
  refine lv_sipush (v := 2334) hx hb dX7_init_23 (by decide) ?_
  refine z_newa (atype := .int) (ty := .int) (a0 := (2334, .inl (fun _ => 0))) (N' := 2334) hx hb (hts (.arrayClass .int) (by decide +kernel)) rfl 0 rfl (fun _ h => by cases h) hK hP hD hS hA (fun _ => rfl) (by decide) (by decide) (Nat.le_of_ble_eq_true rfl) (Nat.le_of_ble_eq_true rfl) (Nat.le_of_ble_eq_true rfl) dX7_init_26 (fun q26 H hP hD hS => ?_)
  have hP : va_P D vwCl ([(o, .inr (7, [.int 0, .ref (q8), .ref (q17), .null, .int 0, .null, .int 0, .null, .null, .int 0, .int 0, .int 0, .int 0, .int 0]))] ++ ([(q8, .inl (cI, 389, .inl (fun _ => 0)))] ++ ([(q17, .inl (cI, 389, .inl (fun _ => 0)))] ++ ([(q26, .inl (cI, 2334, .inl (fun _ => 0)))] ++ [])))) H := by simpa only [List.append_assoc, List.nil_append, List.append_nil, List.cons_append] using hP
  have hD : va_D A ([(o, .inr (7, [.int 0, .ref (q8), .ref (q17), .null, .int 0, .null, .int 0, .null, .null, .int 0, .int 0, .int 0, .int 0, .int 0]))] ++ ([(q8, .inl (cI, 389, .inl (fun _ => 0)))] ++ ([(q17, .inl (cI, 389, .inl (fun _ => 0)))] ++ ([(q26, .inl (cI, 2334, .inl (fun _ => 0)))] ++ [])))) := by simpa only [List.append_assoc, List.nil_append, List.append_nil, List.cons_append] using hD
  refine va_putF (D := D) (ci := 7) (v := .ref (q26)) (ty := .array .int) (C := RX7) (T := TX7) (N := 14) hx hb hts inX7 tyX7 tyX7_ok nmX7 hown hK hP hD hS 0 rfl rfl 3 (by decide) (hts (.fieldLink RX7 16 "TraceCacheModel" "saved" "[I") (by decide +kernel)) (fun _ h9 => h9) rfl hin rfl (by decide +kernel) rfl rfl (Nat.le_of_ble_eq_true rfl) dX7_init_28 (fun H locs hP hD hS => ?_)
  have hP : va_P D vwCl ([(o, .inr (7, [.int 0, .ref (q8), .ref (q17), .ref (q26), .int 0, .null, .int 0, .null, .null, .int 0, .int 0, .int 0, .int 0, .int 0]))] ++ ([(q8, .inl (cI, 389, .inl (fun _ => 0)))] ++ ([(q17, .inl (cI, 389, .inl (fun _ => 0)))] ++ ([(q26, .inl (cI, 2334, .inl (fun _ => 0)))] ++ [])))) H := hP
  have hD : va_D A ([(o, .inr (7, [.int 0, .ref (q8), .ref (q17), .ref (q26), .int 0, .null, .int 0, .null, .null, .int 0, .int 0, .int 0, .int 0, .int 0]))] ++ ([(q8, .inl (cI, 389, .inl (fun _ => 0)))] ++ ([(q17, .inl (cI, 389, .inl (fun _ => 0)))] ++ ([(q26, .inl (cI, 2334, .inl (fun _ => 0)))] ++ [])))) := hD
  refine lv_aload_n hx hb dX7_init_31 rfl (lv_at hl 0 rfl) ?_
  refine lv_bipush (v := 80) hx hb dX7_init_32 (by decide) ?_
  refine z_newa (atype := .int) (ty := .int) (a0 := (80, .inl (fun _ => 0))) (N' := 80) hx hb (hts (.arrayClass .int) (by decide +kernel)) rfl 0 rfl (fun _ h => by cases h) hK hP hD hS hA (fun _ => rfl) (by decide) (by decide) (Nat.le_of_ble_eq_true rfl) (Nat.le_of_ble_eq_true rfl) (Nat.le_of_ble_eq_true rfl) dX7_init_34 (fun q34 H hP hD hS => ?_)
  have hP : va_P D vwCl ([(o, .inr (7, [.int 0, .ref (q8), .ref (q17), .ref (q26), .int 0, .null, .int 0, .null, .null, .int 0, .int 0, .int 0, .int 0, .int 0]))] ++ ([(q8, .inl (cI, 389, .inl (fun _ => 0)))] ++ ([(q17, .inl (cI, 389, .inl (fun _ => 0)))] ++ ([(q26, .inl (cI, 2334, .inl (fun _ => 0)))] ++ ([(q34, .inl (cI, 80, .inl (fun _ => 0)))] ++ []))))) H := by simpa only [List.append_assoc, List.nil_append, List.append_nil, List.cons_append] using hP
  have hD : va_D A ([(o, .inr (7, [.int 0, .ref (q8), .ref (q17), .ref (q26), .int 0, .null, .int 0, .null, .null, .int 0, .int 0, .int 0, .int 0, .int 0]))] ++ ([(q8, .inl (cI, 389, .inl (fun _ => 0)))] ++ ([(q17, .inl (cI, 389, .inl (fun _ => 0)))] ++ ([(q26, .inl (cI, 2334, .inl (fun _ => 0)))] ++ ([(q34, .inl (cI, 80, .inl (fun _ => 0)))] ++ []))))) := by simpa only [List.append_assoc, List.nil_append, List.append_nil, List.cons_append] using hD
  refine va_putF (D := D) (ci := 7) (v := .ref (q34)) (ty := .array .int) (C := RX7) (T := TX7) (N := 14) hx hb hts inX7 tyX7 tyX7_ok nmX7 hown hK hP hD hS 0 rfl rfl 5 (by decide) (hts (.fieldLink RX7 19 "TraceCacheModel" "text" "[I") (by decide +kernel)) (fun _ h9 => h9) rfl hin rfl (by decide +kernel) rfl rfl (Nat.le_of_ble_eq_true rfl) dX7_init_36 (fun H locs hP hD hS => ?_)
  have hP : va_P D vwCl ([(o, .inr (7, [.int 0, .ref (q8), .ref (q17), .ref (q26), .int 0, .ref (q34), .int 0, .null, .null, .int 0, .int 0, .int 0, .int 0, .int 0]))] ++ ([(q8, .inl (cI, 389, .inl (fun _ => 0)))] ++ ([(q17, .inl (cI, 389, .inl (fun _ => 0)))] ++ ([(q26, .inl (cI, 2334, .inl (fun _ => 0)))] ++ ([(q34, .inl (cI, 80, .inl (fun _ => 0)))] ++ []))))) H := hP
  have hD : va_D A ([(o, .inr (7, [.int 0, .ref (q8), .ref (q17), .ref (q26), .int 0, .ref (q34), .int 0, .null, .null, .int 0, .int 0, .int 0, .int 0, .int 0]))] ++ ([(q8, .inl (cI, 389, .inl (fun _ => 0)))] ++ ([(q17, .inl (cI, 389, .inl (fun _ => 0)))] ++ ([(q26, .inl (cI, 2334, .inl (fun _ => 0)))] ++ ([(q34, .inl (cI, 80, .inl (fun _ => 0)))] ++ []))))) := hD
  refine lv_aload_n hx hb dX7_init_39 rfl (lv_at hl 0 rfl) ?_
  refine lv_bipush (v := 8) hx hb dX7_init_40 (by decide) ?_
  refine z_newa (atype := .int) (ty := .int) (a0 := (8, .inl (fun _ => 0))) (N' := 8) hx hb (hts (.arrayClass .int) (by decide +kernel)) rfl 0 rfl (fun _ h => by cases h) hK hP hD hS hA (fun _ => rfl) (by decide) (by decide) (Nat.le_of_ble_eq_true rfl) (Nat.le_of_ble_eq_true rfl) (Nat.le_of_ble_eq_true rfl) dX7_init_42 (fun q42 H hP hD hS => ?_)
  have hP : va_P D vwCl ([(o, .inr (7, [.int 0, .ref (q8), .ref (q17), .ref (q26), .int 0, .ref (q34), .int 0, .null, .null, .int 0, .int 0, .int 0, .int 0, .int 0]))] ++ ([(q8, .inl (cI, 389, .inl (fun _ => 0)))] ++ ([(q17, .inl (cI, 389, .inl (fun _ => 0)))] ++ ([(q26, .inl (cI, 2334, .inl (fun _ => 0)))] ++ ([(q34, .inl (cI, 80, .inl (fun _ => 0)))] ++ ([(q42, .inl (cI, 8, .inl (fun _ => 0)))] ++ [])))))) H := by simpa only [List.append_assoc, List.nil_append, List.append_nil, List.cons_append] using hP
  have hD : va_D A ([(o, .inr (7, [.int 0, .ref (q8), .ref (q17), .ref (q26), .int 0, .ref (q34), .int 0, .null, .null, .int 0, .int 0, .int 0, .int 0, .int 0]))] ++ ([(q8, .inl (cI, 389, .inl (fun _ => 0)))] ++ ([(q17, .inl (cI, 389, .inl (fun _ => 0)))] ++ ([(q26, .inl (cI, 2334, .inl (fun _ => 0)))] ++ ([(q34, .inl (cI, 80, .inl (fun _ => 0)))] ++ ([(q42, .inl (cI, 8, .inl (fun _ => 0)))] ++ [])))))) := by simpa only [List.append_assoc, List.nil_append, List.append_nil, List.cons_append] using hD
  refine va_putF (D := D) (ci := 7) (v := .ref (q42)) (ty := .array .int) (C := RX7) (T := TX7) (N := 14) hx hb hts inX7 tyX7 tyX7_ok nmX7 hown hK hP hD hS 0 rfl rfl 7 (by decide) (hts (.fieldLink RX7 22 "TraceCacheModel" "fetched" "[I") (by decide +kernel)) (fun _ h9 => h9) rfl hin rfl (by decide +kernel) rfl rfl (Nat.le_of_ble_eq_true rfl) dX7_init_44 (fun H locs hP hD hS => ?_)
  have hP : va_P D vwCl ([(o, .inr (7, [.int 0, .ref (q8), .ref (q17), .ref (q26), .int 0, .ref (q34), .int 0, .ref (q42), .null, .int 0, .int 0, .int 0, .int 0, .int 0]))] ++ ([(q8, .inl (cI, 389, .inl (fun _ => 0)))] ++ ([(q17, .inl (cI, 389, .inl (fun _ => 0)))] ++ ([(q26, .inl (cI, 2334, .inl (fun _ => 0)))] ++ ([(q34, .inl (cI, 80, .inl (fun _ => 0)))] ++ ([(q42, .inl (cI, 8, .inl (fun _ => 0)))] ++ [])))))) H := hP
  have hD : va_D A ([(o, .inr (7, [.int 0, .ref (q8), .ref (q17), .ref (q26), .int 0, .ref (q34), .int 0, .ref (q42), .null, .int 0, .int 0, .int 0, .int 0, .int 0]))] ++ ([(q8, .inl (cI, 389, .inl (fun _ => 0)))] ++ ([(q17, .inl (cI, 389, .inl (fun _ => 0)))] ++ ([(q26, .inl (cI, 2334, .inl (fun _ => 0)))] ++ ([(q34, .inl (cI, 80, .inl (fun _ => 0)))] ++ ([(q42, .inl (cI, 8, .inl (fun _ => 0)))] ++ [])))))) := hD
  refine lv_aload_n hx hb dX7_init_47 rfl (lv_at hl 0 rfl) ?_
  refine lv_bipush (v := 8) hx hb dX7_init_48 (by decide) ?_
  refine z_newa (atype := .int) (ty := .int) (a0 := (8, .inl (fun _ => 0))) (N' := 8) hx hb (hts (.arrayClass .int) (by decide +kernel)) rfl 0 rfl (fun _ h => by cases h) hK hP hD hS hA (fun _ => rfl) (by decide) (by decide) (Nat.le_of_ble_eq_true rfl) (Nat.le_of_ble_eq_true rfl) (Nat.le_of_ble_eq_true rfl) dX7_init_50 (fun q50 H hP hD hS => ?_)
  have hP : va_P D vwCl ([(o, .inr (7, [.int 0, .ref (q8), .ref (q17), .ref (q26), .int 0, .ref (q34), .int 0, .ref (q42), .null, .int 0, .int 0, .int 0, .int 0, .int 0]))] ++ ([(q8, .inl (cI, 389, .inl (fun _ => 0)))] ++ ([(q17, .inl (cI, 389, .inl (fun _ => 0)))] ++ ([(q26, .inl (cI, 2334, .inl (fun _ => 0)))] ++ ([(q34, .inl (cI, 80, .inl (fun _ => 0)))] ++ ([(q42, .inl (cI, 8, .inl (fun _ => 0)))] ++ ([(q50, .inl (cI, 8, .inl (fun _ => 0)))] ++ []))))))) H := by simpa only [List.append_assoc, List.nil_append, List.append_nil, List.cons_append] using hP
  have hD : va_D A ([(o, .inr (7, [.int 0, .ref (q8), .ref (q17), .ref (q26), .int 0, .ref (q34), .int 0, .ref (q42), .null, .int 0, .int 0, .int 0, .int 0, .int 0]))] ++ ([(q8, .inl (cI, 389, .inl (fun _ => 0)))] ++ ([(q17, .inl (cI, 389, .inl (fun _ => 0)))] ++ ([(q26, .inl (cI, 2334, .inl (fun _ => 0)))] ++ ([(q34, .inl (cI, 80, .inl (fun _ => 0)))] ++ ([(q42, .inl (cI, 8, .inl (fun _ => 0)))] ++ ([(q50, .inl (cI, 8, .inl (fun _ => 0)))] ++ []))))))) := by simpa only [List.append_assoc, List.nil_append, List.append_nil, List.cons_append] using hD
  refine va_putF (D := D) (ci := 7) (v := .ref (q50)) (ty := .array .int) (C := RX7) (T := TX7) (N := 14) hx hb hts inX7 tyX7 tyX7_ok nmX7 hown hK hP hD hS 0 rfl rfl 8 (by decide) (hts (.fieldLink RX7 25 "TraceCacheModel" "predicted" "[I") (by decide +kernel)) (fun _ h9 => h9) rfl hin rfl (by decide +kernel) rfl rfl (Nat.le_of_ble_eq_true rfl) dX7_init_52 (fun H locs hP hD hS => ?_)
  have hP : va_P D vwCl ([(o, .inr (7, [.int 0, .ref (q8), .ref (q17), .ref (q26), .int 0, .ref (q34), .int 0, .ref (q42), .ref (q50), .int 0, .int 0, .int 0, .int 0, .int 0]))] ++ ([(q8, .inl (cI, 389, .inl (fun _ => 0)))] ++ ([(q17, .inl (cI, 389, .inl (fun _ => 0)))] ++ ([(q26, .inl (cI, 2334, .inl (fun _ => 0)))] ++ ([(q34, .inl (cI, 80, .inl (fun _ => 0)))] ++ ([(q42, .inl (cI, 8, .inl (fun _ => 0)))] ++ ([(q50, .inl (cI, 8, .inl (fun _ => 0)))] ++ []))))))) H := hP
  have hD : va_D A ([(o, .inr (7, [.int 0, .ref (q8), .ref (q17), .ref (q26), .int 0, .ref (q34), .int 0, .ref (q42), .ref (q50), .int 0, .int 0, .int 0, .int 0, .int 0]))] ++ ([(q8, .inl (cI, 389, .inl (fun _ => 0)))] ++ ([(q17, .inl (cI, 389, .inl (fun _ => 0)))] ++ ([(q26, .inl (cI, 2334, .inl (fun _ => 0)))] ++ ([(q34, .inl (cI, 80, .inl (fun _ => 0)))] ++ ([(q42, .inl (cI, 8, .inl (fun _ => 0)))] ++ ([(q50, .inl (cI, 8, .inl (fun _ => 0)))] ++ []))))))) := hD
  obtain ⟨aS, haS⟩ : ∃ z : Nat → Nat, z = zf [o, q8, q17, q26, q34, q42, q50] := ⟨_, rfl⟩
  have ho : o = aS 0 := by rw [haS]; rfl
  have hl : lv_has ls 2 [(0, .ref (aS 0))] := by rw [← ho]; exact hl
  have hP : va_P D vwCl (wX7 cI cZ cII aS (0 : Int32) (fun _ => 0) (fun _ => 0) (fun _ => 0) (0 : Int32) (fun _ => 0) (0 : Int32) (fun _ => 0) (fun _ => 0) (0 : Int32) (0 : Int32) (0 : Int32) (0 : Int32) (0 : Int32) ++ []) H := by rw [haS]; exact hP
  have hD : va_D A (wX7 cI cZ cII aS (0 : Int32) (fun _ => 0) (fun _ => 0) (fun _ => 0) (0 : Int32) (fun _ => 0) (0 : Int32) (fun _ => 0) (fun _ => 0) (0 : Int32) (0 : Int32) (0 : Int32) (0 : Int32) (0 : Int32) ++ []) := by rw [haS]; exact hD
  have kX7_7 := hts (.fieldLink RX7 7 "TraceCacheModel" "s" "[I") (by decide +kernel)
  have J57 : ∀ (n57 : Nat), ∀ (S_s : Nat → Int32) (x1 : Int32) (H : Heap) (locs : List Loc) (ls : Array Slot), m_X7_init_57 n57 S_s x1 = some y → va_P D vwCl (wX7 cI cZ cII aS (0 : Int32) S_s (fun _ => 0) (fun _ => 0) (0 : Int32) (fun _ => 0) (0 : Int32) (fun _ => 0) (fun _ => 0) (0 : Int32) (0 : Int32) (0 : Int32) (0 : Int32) (0 : Int32) ++ []) H → va_D A (wX7 cI cZ cII aS (0 : Int32) S_s (fun _ => 0) (fun _ => 0) (0 : Int32) (fun _ => 0) (0 : Int32) (fun _ => 0) (fun _ => 0) (0 : Int32) (0 : Int32) (0 : Int32) (0 : Int32) (0 : Int32) ++ []) → va_S A s.heap H locs → lv_has ls 2 [(0, .ref (aS 0)), (1, .int x1)] → W p l e ({ frames := 1, cells := 6, slots := 3208, locals := 21 } : Room) s m args below meth c H locs 6 3208 Q (F0 m 57 ls []) := by
    intro n57
    induction n57 with
    | zero =>
      intro S_s x1 H locs ls hf hP hD hS hl
      rw [m_X7_init_57] at hf
      cases hf
    | succ n57 ih57 =>
      intro S_s x1 H locs ls hf hP hD hS hl
      rw [m_X7_init_57] at hf
      refine lv_iload_n hx hb dX7_init_57 rfl (lv_at hl 1 rfl) ?_
      refine lv_bipush (v := 48) hx hb dX7_init_58 (by decide) ?_
      refine lv_icmp_ge (tgt := 91) hx hb dX7_init_60 (by decide) (fun c60 => ?_) (fun c60 => ?_)
      · have hf := if_t c60 hf
        obtain rfl := Option.some.inj hf
        exact hret aS _ _ _ _ _ _ dX7_init_91 ho.symm (Nat.le_of_ble_eq_true rfl) (Nat.le_of_ble_eq_true rfl) hP hD hS
      · have hf := if_f c60 hf
        refine lv_aload_n hx hb dX7_init_63 rfl (lv_at hl 0 rfl) ?_
        refine va_get (D := D) (ci := 7) (v := .ref (aS 1)) (C := RX7) (T := TX7) (N := 14) hx hb hts inX7 hown hK hP 0 rfl rfl 1 (by decide) kX7_7 (fun _ h9 => h9) rfl dX7_init_64 ?_
        refine lv_iload_n hx hb dX7_init_67 rfl (lv_at hl 1 rfl) ?_
        refine lv_iconst (v := 3) hx hb dX7_init_68 (by decide) ?_
        obtain ⟨y69, h69, hf⟩ := bn_t hf
        refine z_ai (x := []) (b := ([] : va_W)) (y := wX7 cI cZ cII aS (0 : Int32) S_s (fun _ => 0) (fun _ => 0) (0 : Int32) (fun _ => 0) (0 : Int32) (fun _ => 0) (fun _ => 0) (0 : Int32) (0 : Int32) (0 : Int32) (0 : Int32) (0 : Int32) ++ []) (b1 := ([] : va_W)) (wsn := wX7 cI cZ cII aS (0 : Int32) S_s (fun _ => 0) (fun _ => 0) (0 : Int32) (fun _ => 0) (0 : Int32) (fun _ => 0) (fun _ => 0) (0 : Int32) (0 : Int32) (0 : Int32) (0 : Int32) (0 : Int32) ++ []) (va_runS (As := [.int x1, .int (3 : Int32)]) (rest := [.ref (aS 1)]) ⟨hx, hb, hml, hown, hts⟩ (c_X7_of l D cI cZ cII cJ cM x1 (3 : Int32) H.size y69 h69) (va_cwS 2 hts gX7_init_X7_of rfl rfl rfl (by decide +kernel) ⟨Nat.le_of_ble_eq_true rfl, Nat.le_of_ble_eq_true rfl⟩) (pz_S (x := []) (b := ([] : va_W)) (y := wX7 cI cZ cII aS (0 : Int32) S_s (fun _ => 0) (fun _ => 0) (0 : Int32) (fun _ => 0) (0 : Int32) (fun _ => 0) (fun _ => 0) (0 : Int32) (0 : Int32) (0 : Int32) (0 : Int32) (0 : Int32) ++ []) hK hN hP hD (by simp only [List.append_assoc, List.nil_append, List.append_nil])) rfl rfl hl.1 rfl (lv_room (Nat.le_of_ble_eq_true rfl)) dX7_init_69 ⟨Nat.le_of_ble_eq_true rfl, Nat.le_of_ble_eq_true rfl⟩) hP hD hS hA (by simp only [List.append_assoc, List.nil_append, List.append_nil]) (by simp only [List.append_assoc, List.nil_append, List.append_nil]) (fun H locs hP hD hS => ?_)
        refine lv_iconst (v := 1) hx hb dX7_init_72 (by decide) ?_
        obtain ⟨g73, hf⟩ := gd_t hf
        refine va_iast hx hb hK hP hD hS 1 0 rfl rfl (inb_t g73) dX7_init_73 (fun H locs hP hD hS => ?_)
        obtain ⟨S_s_73, eS_s_73⟩ : ∃ z : Nat → Int32, z = upd S_s (Int32.toNatClampNeg y69) (1 : Int32) := ⟨_, rfl⟩
        have hf := bd_t eS_s_73 hf
        have hP : va_P D vwCl (wX7 cI cZ cII aS (0 : Int32) S_s_73 (fun _ => 0) (fun _ => 0) (0 : Int32) (fun _ => 0) (0 : Int32) (fun _ => 0) (fun _ => 0) (0 : Int32) (0 : Int32) (0 : Int32) (0 : Int32) (0 : Int32) ++ []) H := by rw [eS_s_73]; exact hP
        have hD : va_D A (wX7 cI cZ cII aS (0 : Int32) S_s_73 (fun _ => 0) (fun _ => 0) (0 : Int32) (fun _ => 0) (0 : Int32) (fun _ => 0) (fun _ => 0) (0 : Int32) (0 : Int32) (0 : Int32) (0 : Int32) (0 : Int32) ++ []) := by rw [eS_s_73]; exact hD
        refine lv_aload_n hx hb dX7_init_74 rfl (lv_at hl 0 rfl) ?_
        refine va_get (D := D) (ci := 7) (v := .ref (aS 1)) (C := RX7) (T := TX7) (N := 14) hx hb hts inX7 hown hK hP 0 rfl rfl 1 (by decide) kX7_7 (fun _ h9 => h9) rfl dX7_init_75 ?_
        refine lv_iload_n hx hb dX7_init_78 rfl (lv_at hl 1 rfl) ?_
        refine lv_iconst (v := 5) hx hb dX7_init_79 (by decide) ?_
        obtain ⟨y80, h80, hf⟩ := bn_t hf
        refine z_ai (x := []) (b := ([] : va_W)) (y := wX7 cI cZ cII aS (0 : Int32) S_s_73 (fun _ => 0) (fun _ => 0) (0 : Int32) (fun _ => 0) (0 : Int32) (fun _ => 0) (fun _ => 0) (0 : Int32) (0 : Int32) (0 : Int32) (0 : Int32) (0 : Int32) ++ []) (b1 := ([] : va_W)) (wsn := wX7 cI cZ cII aS (0 : Int32) S_s_73 (fun _ => 0) (fun _ => 0) (0 : Int32) (fun _ => 0) (0 : Int32) (fun _ => 0) (fun _ => 0) (0 : Int32) (0 : Int32) (0 : Int32) (0 : Int32) (0 : Int32) ++ []) (va_runS (As := [.int x1, .int (5 : Int32)]) (rest := [.ref (aS 1)]) ⟨hx, hb, hml, hown, hts⟩ (c_X7_of l D cI cZ cII cJ cM x1 (5 : Int32) H.size y80 h80) (va_cwS 2 hts gX7_init_X7_of rfl rfl rfl (by decide +kernel) ⟨Nat.le_of_ble_eq_true rfl, Nat.le_of_ble_eq_true rfl⟩) (pz_S (x := []) (b := ([] : va_W)) (y := wX7 cI cZ cII aS (0 : Int32) S_s_73 (fun _ => 0) (fun _ => 0) (0 : Int32) (fun _ => 0) (0 : Int32) (fun _ => 0) (fun _ => 0) (0 : Int32) (0 : Int32) (0 : Int32) (0 : Int32) (0 : Int32) ++ []) hK hN hP hD (by simp only [List.append_assoc, List.nil_append, List.append_nil])) rfl rfl hl.1 rfl (lv_room (Nat.le_of_ble_eq_true rfl)) dX7_init_80 ⟨Nat.le_of_ble_eq_true rfl, Nat.le_of_ble_eq_true rfl⟩) hP hD hS hA (by simp only [List.append_assoc, List.nil_append, List.append_nil]) (by simp only [List.append_assoc, List.nil_append, List.append_nil]) (fun H locs hP hD hS => ?_)
        refine lv_iconst (v := 1) hx hb dX7_init_83 (by decide) ?_
        obtain ⟨g84, hf⟩ := gd_t hf
        refine va_iast hx hb hK hP hD hS 1 0 rfl rfl (inb_t g84) dX7_init_84 (fun H locs hP hD hS => ?_)
        obtain ⟨S_s_84, eS_s_84⟩ : ∃ z : Nat → Int32, z = upd S_s_73 (Int32.toNatClampNeg y80) (1 : Int32) := ⟨_, rfl⟩
        have hf := bd_t eS_s_84 hf
        have hP : va_P D vwCl (wX7 cI cZ cII aS (0 : Int32) S_s_84 (fun _ => 0) (fun _ => 0) (0 : Int32) (fun _ => 0) (0 : Int32) (fun _ => 0) (fun _ => 0) (0 : Int32) (0 : Int32) (0 : Int32) (0 : Int32) (0 : Int32) ++ []) H := by rw [eS_s_84]; exact hP
        have hD : va_D A (wX7 cI cZ cII aS (0 : Int32) S_s_84 (fun _ => 0) (fun _ => 0) (0 : Int32) (fun _ => 0) (0 : Int32) (fun _ => 0) (fun _ => 0) (0 : Int32) (0 : Int32) (0 : Int32) (0 : Int32) (0 : Int32) ++ []) := by rw [eS_s_84]; exact hD
        obtain ⟨v85, ev85⟩ : ∃ z : Int32, z = x1 + (1 : Int32) := ⟨_, rfl⟩
        have hf := bd_t ev85 hf
        refine lv_iinc (v := v85) (lv' := [(1, .int v85), (0, .ref (aS 0))]) hx hb dX7_init_85 hl (k := 1) rfl (by rw [ev85]; rfl) (by decide) rfl (fun ls hl => ?_)
        refine lv_goto (tgt := 57) hx hb dX7_init_88 (by decide) ?_
        exact ih57 S_s_84 v85 _ _ _ hf hP hD hS (lv_sub hl [1, 0] rfl)
  unfold m_X7_init at hf
  refine lv_iconst (v := 0) hx hb dX7_init_55 (by decide) ?_
  refine lv_istore_n (lv' := [(1, .int (0 : Int32)), (0, .ref (aS 0))]) hx hb dX7_init_56 rfl hl (by decide) rfl (fun ls hl => ?_)
  exact J57 4000 (fun _ => 0) (0 : Int32) _ _ _ hf hP hD hS (lv_sub hl [1, 0] rfl)

