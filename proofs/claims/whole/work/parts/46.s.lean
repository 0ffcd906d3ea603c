set_option maxHeartbeats 8000000 in
set_option maxRecDepth 100000 in
theorem c_X7_errorPosition (l : Launch) (D : va_G) (cI cZ cII cJ cM : ClassId) (aS : Nat → Nat) (S_thrown : Int32) (S_s : Nat → Int32) (S_aside : Nat → Int32) (S_saved : Nat → Int32) (S_savedMany : Int32) (S_text : Nat → Int32) (S_length : Int32) (S_fetched : Nat → Int32) (S_predicted : Nat → Int32) (S_fetchedMany : Int32) (S_fetchedWay : Int32) (S_spot : Int32) (S_isWrong : Int32) (S_executedByText : Int32) (sz : Nat) (y : (Int32) × (Int32) × (Nat → Int32) × (Nat → Int32) × (Nat → Int32) × (Int32) × (Int32) × (Int32) × (Int32) × (Int32)) (hf : m_X7_errorPosition S_text S_length S_thrown S_s S_fetched S_predicted S_fetchedMany S_fetchedWay S_spot S_isWrong S_executedByText = some y) : Met l yX7_errorPosition wsX7_errorPosition ({ frames := 9, cells := 0, slots := 0, locals := 203 } : Room) (va_Pc [.ref (aS 0)] (pzPre D (zT cI cZ cII cJ cM) (wX7 cI cZ cII aS S_thrown S_s S_aside S_saved S_savedMany S_text S_length S_fetched S_predicted S_fetchedMany S_fetchedWay S_spot S_isWrong S_executedByText ++ []) sz)) (va_Qi (fun v (_ : Unit) => v = y.1) (fun _ t => pzB D (zT cI cZ cII cJ cM) (va_A (wX7 cI cZ cII aS S_thrown S_s S_aside S_saved S_savedMany S_text S_length S_fetched S_predicted S_fetchedMany S_fetchedWay S_spot S_isWrong S_executedByText ++ []) sz) (wX7 cI cZ cII aS y.2.1 y.2.2.1 S_aside S_saved S_savedMany S_text S_length y.2.2.2.1 y.2.2.2.2.1 y.2.2.2.2.2.1 y.2.2.2.2.2.2.1 y.2.2.2.2.2.2.2.1 y.2.2.2.2.2.2.2.2.1 y.2.2.2.2.2.2.2.2.2 ++ []) t) (va_A (wX7 cI cZ cII aS S_thrown S_s S_aside S_saved S_savedMany S_text S_length S_fetched S_predicted S_fetchedMany S_fetchedWay S_spot S_isWrong S_executedByText ++ []) sz)) 0 0 (va_A (wX7 cI cZ cII aS S_thrown S_s S_aside S_saved S_savedMany S_text S_length S_fetched S_predicted S_fetchedMany S_fetchedWay S_spot S_isWrong S_executedByText ++ []) sz) := by
  refine z_meti (cc := cX7_errorPosition) (maxL := 1) (by decide) rfl (Nat.le_of_ble_eq_true rfl) ?_
  intro p e s m args below meth c A ls Q H locs F hP hD hS hl hret
  obtain ⟨hx, hb, hml, hown, hts, hN, hK, hA⟩ := F
  have hown : s.vm.findClass RX7 = some m.cls := hown
  have hl : lv_has ls 1 [(0, .ref (aS 0))] := hl
  have inX7 : ∀ w ∈ u_ws RX7 TX7 14, w ∈ wsX7_errorPosition := by decide +kernel
  have kX7_32 := hts (.fieldLink RX7 32 "TraceCacheModel" "thrown" "I") (by decide +kernel)
  have kX7_138 := hts (.fieldLink RX7 138 "TraceCacheModel" "isWrong" "Z") (by decide +kernel)
  have kX7_142 := hts (.fieldLink RX7 142 "TraceCacheModel" "spot" "I") (by decide +kernel)
  have J25 : ∀ (S_thrown : Int32) (S_s : Nat → Int32) (S_fetched : Nat → Int32) (S_predicted : Nat → Int32) (S_fetchedMany : Int32) (S_fetchedWay : Int32) (S_spot : Int32) (S_isWrong : Int32) (S_executedByText : Int32) (k0 : Int32) (H : Heap) (locs : List Loc) (ls : Array Slot), m_X7_errorPosition_25 S_text S_length S_thrown S_s S_fetched S_predicted S_fetchedMany S_fetchedWay S_spot S_isWrong S_executedByText k0 = some y → va_P D vwCl (wX7 cI cZ cII aS S_thrown S_s S_aside S_saved S_savedMany S_text S_length S_fetched S_predicted S_fetchedMany S_fetchedWay S_spot S_isWrong S_executedByText ++ []) H → va_D A (wX7 cI cZ cII aS S_thrown S_s S_aside S_saved S_savedMany S_text S_length S_fetched S_predicted S_fetchedMany S_fetchedWay S_spot S_isWrong S_executedByText ++ []) → va_S A s.heap H locs → lv_has ls 1 [] → W p l e ({ frames := 9, cells := 0, slots := 0, locals := 203 } : Room) s m args below meth c H locs 0 0 Q (F0 m 25 ls [.int k0]) := by
    intro S_thrown S_s S_fetched S_predicted S_fetchedMany S_fetchedWay S_spot S_isWrong S_executedByText k0 H locs ls hf hP hD hS hl
    unfold m_X7_errorPosition_25 at hf
    obtain rfl := Option.some.inj hf
    exact hret _ _ _ _ _ dX7_errorPosition_25 rfl hP hD hS
  unfold m_X7_errorPosition at hf
  refine lv_aload_n hx hb dX7_errorPosition_0 rfl (lv_at hl 0 rfl) ?_
  refine lv_iconst (v := 0) hx hb dX7_errorPosition_1 (by decide) ?_
  refine va_put (D := D) (ci := 7) (v := .int (0 : Int32)) (ty := .int) (C := RX7) (T := TX7) (N := 14) hx hb hts inX7 tyX7 tyX7_ok nmX7 hown hK hP hD hS 0 rfl rfl 0 (by decide) kX7_32 (fun _ h9 => h9) rfl (by decide +kernel) rfl rfl (Nat.le_of_ble_eq_true rfl) dX7_errorPosition_2 (fun H locs hP hD hS => ?_)
  have hP : va_P D vwCl (wX7 cI cZ cII aS (0 : Int32) S_s S_aside S_saved S_savedMany S_text S_length S_fetched S_predicted S_fetchedMany S_fetchedWay S_spot S_isWrong S_executedByText ++ []) H := hP
  have hD : va_D A (wX7 cI cZ cII aS (0 : Int32) S_s S_aside S_saved S_savedMany S_text S_length S_fetched S_predicted S_fetchedMany S_fetchedWay S_spot S_isWrong S_executedByText ++ []) := hD
  refine lv_aload_n hx hb dX7_errorPosition_5 rfl (lv_at hl 0 rfl) ?_
  refine lv_iconst (v := 0) hx hb dX7_errorPosition_6 (by decide) ?_
  obtain ⟨y7, h7, hf⟩ := bn_t hf
  refine z_av (x := []) (b := wX7 cI cZ cII aS (0 : Int32) S_s S_aside S_saved S_savedMany S_text S_length S_fetched S_predicted S_fetchedMany S_fetchedWay S_spot S_isWrong S_executedByText ++ []) (y := ([] : va_W)) (b1 := wX7 cI cZ cII aS (0 : Int32) y7.1 S_aside S_saved S_savedMany S_text S_length y7.2.1 y7.2.2.1 y7.2.2.2.1 y7.2.2.2.2.1 y7.2.2.2.2.2.1 y7.2.2.2.2.2.2.1 y7.2.2.2.2.2.2.2 ++ []) (wsn := wX7 cI cZ cII aS (0 : Int32) y7.1 S_aside S_saved S_savedMany S_text S_length y7.2.1 y7.2.2.1 y7.2.2.2.1 y7.2.2.2.2.1 y7.2.2.2.2.2.1 y7.2.2.2.2.2.2.1 y7.2.2.2.2.2.2.2 ++ []) (va_runV (As := [.int (0 : Int32)]) (rest := []) ⟨hx, hb, hml, hown, hts⟩ (c_X7_reads l D cI cZ cII cJ cM aS (0 : Int32) S_s S_aside S_saved S_savedMany S_text S_length S_fetched S_predicted S_fetchedMany S_fetchedWay S_spot S_isWrong S_executedByText (0 : Int32) H.size y7 h7) (cwV 1 hts gX7_errorPosition_X7_reads rfl rfl rfl (by decide +kernel) ⟨Nat.le_of_ble_eq_true rfl, Nat.le_of_ble_eq_true rfl⟩) (pz_V (x := []) (b := wX7 cI cZ cII aS (0 : Int32) S_s S_aside S_saved S_savedMany S_text S_length S_fetched S_predicted S_fetchedMany S_fetchedWay S_spot S_isWrong S_executedByText ++ []) (y := ([] : va_W)) (C := RX7) (T := TX7) (N := 14) (ci := 7) (As := [.int (0 : Int32)]) (bi := 0) hK hN hP hD (by simp only [List.append_assoc, List.nil_append, List.append_nil]) rfl rfl) rfl rfl hl.1 rfl (lv_room (Nat.le_of_ble_eq_true rfl)) dX7_errorPosition_7 ⟨Nat.le_of_ble_eq_true rfl, Nat.le_of_ble_eq_true rfl⟩) hP hD hS hA (by simp only [List.append_assoc, List.nil_append, List.append_nil]) (by simp only [List.append_assoc, List.nil_append, List.append_nil]) (fun H locs hP hD hS => ?_)
  refine lv_aload_n hx hb dX7_errorPosition_10 rfl (lv_at hl 0 rfl) ?_
  refine va_get (D := D) (ci := 7) (v := .int y7.2.2.2.2.2.2.1) (C := RX7) (T := TX7) (N := 14) hx hb hts inX7 hown hK hP 0 rfl rfl 12 (by decide) kX7_138 (fun _ h9 => h9) rfl dX7_errorPosition_11 ?_
  refine lv_if_eq (tgt := 24) hx hb dX7_errorPosition_14 (by decide) (fun c14 => ?_) (fun c14 => ?_)
  · have hf := if_t c14 hf
    refine lv_iconst (v := -1) hx hb dX7_errorPosition_24 (by decide) ?_
    exact J25 (0 : Int32) y7.1 y7.2.1 y7.2.2.1 y7.2.2.2.1 y7.2.2.2.2.1 y7.2.2.2.2.2.1 y7.2.2.2.2.2.2.1 y7.2.2.2.2.2.2.2 (-1 : Int32) _ _ _ hf hP hD hS (lv_sub hl [] rfl)
  · have hf := if_f c14 hf
    refine lv_aload_n hx hb dX7_errorPosition_17 rfl (lv_at hl 0 rfl) ?_
    refine va_get (D := D) (ci := 7) (v := .int y7.2.2.2.2.2.1) (C := RX7) (T := TX7) (N := 14) hx hb hts inX7 hown hK hP 0 rfl rfl 11 (by decide) kX7_142 (fun _ h9 => h9) rfl dX7_errorPosition_18 ?_
    refine lv_goto (tgt := 25) hx hb dX7_errorPosition_21 (by decide) ?_
    exact J25 (0 : Int32) y7.1 y7.2.1 y7.2.2.1 y7.2.2.2.1 y7.2.2.2.2.1 y7.2.2.2.2.2.1 y7.2.2.2.2.2.2.1 y7.2.2.2.2.2.2.2 y7.2.2.2.2.2.1 _ _ _ hf hP hD hS (lv_sub hl [] rfl)
set_option maxHeartbeats 8000000 in
set_option maxRecDepth 100000 in
theorem c_X7_runText (l : Launch) (D : va_G) (cI cZ cII cJ cM : ClassId) (aS : Nat → Nat) (S_thrown : Int32) (S_s : Nat → Int32) (S_aside : Nat → Int32) (S_saved : Nat → Int32) (S_savedMany : Int32) (S_text : Nat → Int32) (S_length : Int32) (S_fetched : Nat → Int32) (S_predicted : Nat → Int32) (S_fetchedMany : Int32) (S_fetchedWay : Int32) (S_spot : Int32) (S_isWrong : Int32) (S_executedByText : Int32) (sz : Nat) (y : (Int32) × (Int32) × (Nat → Int32) × (Nat → Int32) × (Int32) × (Nat → Int32) × (Nat → Int32) × (Int32) × (Int32) × (Int32) × (Int32) × (Int32)) (hf : m_X7_runText S_text S_length S_thrown S_s S_saved S_savedMany S_fetched S_predicted S_fetchedMany S_fetchedWay S_spot S_isWrong S_executedByText = some y) : Met l yX7_runText wsX7_runText ({ frames := 9, cells := 0, slots := 0, locals := 203 } : Room) (va_Pc [.ref (aS 0)] (pzPre D (zT cI cZ cII cJ cM) (wX7 cI cZ cII aS S_thrown S_s S_aside S_saved S_savedMany S_text S_length S_fetched S_predicted S_fetchedMany S_fetchedWay S_spot S_isWrong S_executedByText ++ []) sz)) (va_Qi (fun v (_ : Unit) => v = y.1) (fun _ t => pzB D (zT cI cZ cII cJ cM) (va_A (wX7 cI cZ cII aS S_thrown S_s S_aside S_saved S_savedMany S_text S_length S_fetched S_predicted S_fetchedMany S_fetchedWay S_spot S_isWrong S_executedByText ++ []) sz) (wX7 cI cZ cII aS y.2.1 y.2.2.1 S_aside y.2.2.2.1 y.2.2.2.2.1 S_text S_length y.2.2.2.2.2.1 y.2.2.2.2.2.2.1 y.2.2.2.2.2.2.2.1 y.2.2.2.2.2.2.2.2.1 y.2.2.2.2.2.2.2.2.2.1 y.2.2.2.2.2.2.2.2.2.2.1 y.2.2.2.2.2.2.2.2.2.2.2 ++ []) t) (va_A (wX7 cI cZ cII aS S_thrown S_s S_aside S_saved S_savedMany S_text S_length S_fetched S_predicted S_fetchedMany S_fetchedWay S_spot S_isWrong S_executedByText ++ []) sz)) 0 0 (va_A (wX7 cI cZ cII aS S_thrown S_s S_aside S_saved S_savedMany S_text S_length S_fetched S_predicted S_fetchedMany S_fetchedWay S_spot S_isWrong S_executedByText ++ []) sz) := by
  refine z_meti (cc := cX7_runText) (maxL := 1) (by decide) rfl (Nat.le_of_ble_eq_true rfl) ?_
  intro p e s m args below meth c A ls Q H locs F hP hD hS hl hret
  obtain ⟨hx, hb, hml, hown, hts, hN, hK, hA⟩ := F
  have hown : s.vm.findClass RX7 = some m.cls := hown
  have hl : lv_has ls 1 [(0, .ref (aS 0))] := hl
  have inX7 : ∀ w ∈ u_ws RX7 TX7 14, w ∈ wsX7_runText := by decide +kernel
  have kX7_138 := hts (.fieldLink RX7 138 "TraceCacheModel" "isWrong" "Z") (by decide +kernel)
  have kX7_162 := hts (.fieldLink RX7 162 "TraceCacheModel" "executedByText" "I") (by decide +kernel)
  have J18 : ∀ (S_thrown : Int32) (S_s : Nat → Int32) (S_saved : Nat → Int32) (S_savedMany : Int32) (S_fetched : Nat → Int32) (S_predicted : Nat → Int32) (S_fetchedMany : Int32) (S_fetchedWay : Int32) (S_spot : Int32) (S_isWrong : Int32) (S_executedByText : Int32) (k1 : Int32) (H : Heap) (locs : List Loc) (ls : Array Slot), m_X7_runText_18 S_text S_length S_thrown S_s S_saved S_savedMany S_fetched S_predicted S_fetchedMany S_fetchedWay S_spot S_isWrong S_executedByText k1 = some y → va_P D vwCl (wX7 cI cZ cII aS S_thrown S_s S_aside S_saved S_savedMany S_text S_length S_fetched S_predicted S_fetchedMany S_fetchedWay S_spot S_isWrong S_executedByText ++ []) H → va_D A (wX7 cI cZ cII aS S_thrown S_s S_aside S_saved S_savedMany S_text S_length S_fetched S_predicted S_fetchedMany S_fetchedWay S_spot S_isWrong S_executedByText ++ []) → va_S A s.heap H locs → lv_has ls 1 [(0, .ref (aS 0))] → W p l e ({ frames := 9, cells := 0, slots := 0, locals := 203 } : Room) s m args below meth c H locs 0 0 Q (F0 m 18 ls [.int k1, .ref (aS 0)]) := by
    intro S_thrown S_s S_saved S_savedMany S_fetched S_predicted S_fetchedMany S_fetchedWay S_spot S_isWrong S_executedByText k1 H locs ls hf hP hD hS hl
    unfold m_X7_runText_18 at hf
    obtain ⟨y18, h18, hf⟩ := bn_t hf
    refine z_ai (x := []) (b := wX7 cI cZ cII aS S_thrown S_s S_aside S_saved S_savedMany S_text S_length S_fetched S_predicted S_fetchedMany S_fetchedWay S_spot S_isWrong S_executedByText ++ []) (y := ([] : va_W)) (b1 := wX7 cI cZ cII aS y18.2 S_s S_aside S_saved S_savedMany S_text S_length S_fetched S_predicted S_fetchedMany S_fetchedWay S_spot S_isWrong S_executedByText ++ []) (wsn := wX7 cI cZ cII aS y18.2 S_s S_aside S_saved S_savedMany S_text S_length S_fetched S_predicted S_fetchedMany S_fetchedWay S_spot S_isWrong S_executedByText ++ []) (va_runV (As := [.int k1]) (rest := []) ⟨hx, hb, hml, hown, hts⟩ (c_X7_holds l D cI cZ cII cJ cM aS S_thrown S_s S_aside S_saved S_savedMany S_text S_length S_fetched S_predicted S_fetchedMany S_fetchedWay S_spot S_isWrong S_executedByText k1 H.size y18 h18) (cwV 1 hts gX7_runText_X7_holds rfl rfl rfl (by decide +kernel) ⟨Nat.le_of_ble_eq_true rfl, Nat.le_of_ble_eq_true rfl⟩) (pz_V (x := []) (b := wX7 cI cZ cII aS S_thrown S_s S_aside S_saved S_savedMany S_text S_length S_fetched S_predicted S_fetchedMany S_fetchedWay S_spot S_isWrong S_executedByText ++ []) (y := ([] : va_W)) (C := RX7) (T := TX7) (N := 14) (ci := 7) (As := [.int k1]) (bi := 0) hK hN hP hD (by simp only [List.append_assoc, List.nil_append, List.append_nil]) rfl rfl) rfl rfl hl.1 rfl (lv_room (Nat.le_of_ble_eq_true rfl)) dX7_runText_18 ⟨Nat.le_of_ble_eq_true rfl, Nat.le_of_ble_eq_true rfl⟩) hP hD hS hA (by simp only [List.append_assoc, List.nil_append, List.append_nil]) (by simp only [List.append_assoc, List.nil_append, List.append_nil]) (fun H locs hP hD hS => ?_)
    refine lv_if_ne (tgt := 26) hx hb dX7_runText_21 (by decide) (fun c21 => ?_) (fun c21 => ?_)
    · have hf := if_f c21 hf
      refine lv_aload_n hx hb dX7_runText_26 rfl (lv_at hl 0 rfl) ?_
      obtain ⟨y27, h27, hf⟩ := bn_t hf
      refine z_av (x := []) (b := wX7 cI cZ cII aS y18.2 S_s S_aside S_saved S_savedMany S_text S_length S_fetched S_predicted S_fetchedMany S_fetchedWay S_spot S_isWrong S_executedByText ++ []) (y := ([] : va_W)) (b1 := wX7 cI cZ cII aS y18.2 S_s S_aside y27.1 y27.2 S_text S_length S_fetched S_predicted S_fetchedMany S_fetchedWay S_spot S_isWrong S_executedByText ++ []) (wsn := wX7 cI cZ cII aS y18.2 S_s S_aside y27.1 y27.2 S_text S_length S_fetched S_predicted S_fetchedMany S_fetchedWay S_spot S_isWrong S_executedByText ++ []) (va_runV (As := []) (rest := []) ⟨hx, hb, hml, hown, hts⟩ (c_X7_save l D cI cZ cII cJ cM aS y18.2 S_s S_aside S_saved S_savedMany S_text S_length S_fetched S_predicted S_fetchedMany S_fetchedWay S_spot S_isWrong S_executedByText H.size y27 h27) (cwV 0 hts gX7_runText_X7_save rfl rfl rfl (by decide +kernel) ⟨Nat.le_of_ble_eq_true rfl, Nat.le_of_ble_eq_true rfl⟩) (pz_V (x := []) (b := wX7 cI cZ cII aS y18.2 S_s S_aside S_saved S_savedMany S_text S_length S_fetched S_predicted S_fetchedMany S_fetchedWay S_spot S_isWrong S_executedByText ++ []) (y := ([] : va_W)) (C := RX7) (T := TX7) (N := 14) (ci := 7) (As := []) (bi := 0) hK hN hP hD (by simp only [List.append_assoc, List.nil_append, List.append_nil]) rfl rfl) rfl rfl hl.1 rfl (lv_room (Nat.le_of_ble_eq_true rfl)) dX7_runText_27 ⟨Nat.le_of_ble_eq_true rfl, Nat.le_of_ble_eq_true rfl⟩) hP hD hS hA (by simp only [List.append_assoc, List.nil_append, List.append_nil]) (by simp only [List.append_assoc, List.nil_append, List.append_nil]) (fun H locs hP hD hS => ?_)
      refine lv_aload_n hx hb dX7_runText_30 rfl (lv_at hl 0 rfl) ?_
      refine lv_iconst (v := 1) hx hb dX7_runText_31 (by decide) ?_
      obtain ⟨y32, h32, hf⟩ := bn_t hf
      refine z_av (x := []) (b := wX7 cI cZ cII aS y18.2 S_s S_aside y27.1 y27.2 S_text S_length S_fetched S_predicted S_fetchedMany S_fetchedWay S_spot S_isWrong S_executedByText ++ []) (y := ([] : va_W)) (b1 := wX7 cI cZ cII aS y18.2 y32.1 S_aside y27.1 y27.2 S_text S_length y32.2.1 y32.2.2.1 y32.2.2.2.1 y32.2.2.2.2.1 y32.2.2.2.2.2.1 y32.2.2.2.2.2.2.1 y32.2.2.2.2.2.2.2 ++ []) (wsn := wX7 cI cZ cII aS y18.2 y32.1 S_aside y27.1 y27.2 S_text S_length y32.2.1 y32.2.2.1 y32.2.2.2.1 y32.2.2.2.2.1 y32.2.2.2.2.2.1 y32.2.2.2.2.2.2.1 y32.2.2.2.2.2.2.2 ++ []) (va_runV (As := [.int (1 : Int32)]) (rest := []) ⟨hx, hb, hml, hown, hts⟩ (c_X7_reads l D cI cZ cII cJ cM aS y18.2 S_s S_aside y27.1 y27.2 S_text S_length S_fetched S_predicted S_fetchedMany S_fetchedWay S_spot S_isWrong S_executedByText (1 : Int32) H.size y32 h32) (cwV 1 hts gX7_runText_X7_reads rfl rfl rfl (by decide +kernel) ⟨Nat.le_of_ble_eq_true rfl, Nat.le_of_ble_eq_true rfl⟩) (pz_V (x := []) (b := wX7 cI cZ cII aS y18.2 S_s S_aside y27.1 y27.2 S_text S_length S_fetched S_predicted S_fetchedMany S_fetchedWay S_spot S_isWrong S_executedByText ++ []) (y := ([] : va_W)) (C := RX7) (T := TX7) (N := 14) (ci := 7) (As := [.int (1 : Int32)]) (bi := 0) hK hN hP hD (by simp only [List.append_assoc, List.nil_append, List.append_nil]) rfl rfl) rfl rfl hl.1 rfl (lv_room (Nat.le_of_ble_eq_true rfl)) dX7_runText_32 ⟨Nat.le_of_ble_eq_true rfl, Nat.le_of_ble_eq_true rfl⟩) hP hD hS hA (by simp only [List.append_assoc, List.nil_append, List.append_nil]) (by simp only [List.append_assoc, List.nil_append, List.append_nil]) (fun H locs hP hD hS => ?_)
      refine lv_aload_n hx hb dX7_runText_35 rfl (lv_at hl 0 rfl) ?_
      refine va_get (D := D) (ci := 7) (v := .int y32.2.2.2.2.2.2.2) (C := RX7) (T := TX7) (N := 14) hx hb hts inX7 hown hK hP 0 rfl rfl 13 (by decide) kX7_162 (fun _ h9 => h9) rfl dX7_runText_36 ?_
      obtain rfl := Option.some.inj hf
      exact hret _ _ _ _ _ dX7_runText_39 rfl hP hD hS
    · have hf := if_t c21 hf
      refine lv_iconst (v := 0) hx hb dX7_runText_24 (by decide) ?_
      obtain rfl := Option.some.inj hf
      exact hret _ _ _ _ _ dX7_runText_25 rfl hP hD hS
  unfold m_X7_runText at hf
  refine lv_aload_n hx hb dX7_runText_0 rfl (lv_at hl 0 rfl) ?_
  refine lv_iconst (v := 0) hx hb dX7_runText_1 (by decide) ?_
  obtain ⟨y2, h2, hf⟩ := bn_t hf
  refine z_av (x := []) (b := wX7 cI cZ cII aS S_thrown S_s S_aside S_saved S_savedMany S_text S_length S_fetched S_predicted S_fetchedMany S_fetchedWay S_spot S_isWrong S_executedByText ++ []) (y := ([] : va_W)) (b1 := wX7 cI cZ cII aS S_thrown y2.1 S_aside S_saved S_savedMany S_text S_length y2.2.1 y2.2.2.1 y2.2.2.2.1 y2.2.2.2.2.1 y2.2.2.2.2.2.1 y2.2.2.2.2.2.2.1 y2.2.2.2.2.2.2.2 ++ []) (wsn := wX7 cI cZ cII aS S_thrown y2.1 S_aside S_saved S_savedMany S_text S_length y2.2.1 y2.2.2.1 y2.2.2.2.1 y2.2.2.2.2.1 y2.2.2.2.2.2.1 y2.2.2.2.2.2.2.1 y2.2.2.2.2.2.2.2 ++ []) (va_runV (As := [.int (0 : Int32)]) (rest := []) ⟨hx, hb, hml, hown, hts⟩ (c_X7_reads l D cI cZ cII cJ cM aS S_thrown S_s S_aside S_saved S_savedMany S_text S_length S_fetched S_predicted S_fetchedMany S_fetchedWay S_spot S_isWrong S_executedByText (0 : Int32) H.size y2 h2) (cwV 1 hts gX7_runText_X7_reads rfl rfl rfl (by decide +kernel) ⟨Nat.le_of_ble_eq_true rfl, Nat.le_of_ble_eq_true rfl⟩) (pz_V (x := []) (b := wX7 cI cZ cII aS S_thrown S_s S_aside S_saved S_savedMany S_text S_length S_fetched S_predicted S_fetchedMany S_fetchedWay S_spot S_isWrong S_executedByText ++ []) (y := ([] : va_W)) (C := RX7) (T := TX7) (N := 14) (ci := 7) (As := [.int (0 : Int32)]) (bi := 0) hK hN hP hD (by simp only [List.append_assoc, List.nil_append, List.append_nil]) rfl rfl) rfl rfl hl.1 rfl (lv_room (Nat.le_of_ble_eq_true rfl)) dX7_runText_2 ⟨Nat.le_of_ble_eq_true rfl, Nat.le_of_ble_eq_true rfl⟩) hP hD hS hA (by simp only [List.append_assoc, List.nil_append, List.append_nil]) (by simp only [List.append_assoc, List.nil_append, List.append_nil]) (fun H locs hP hD hS => ?_)
  refine lv_aload_n hx hb dX7_runText_5 rfl (lv_at hl 0 rfl) ?_
  refine lv_aload_n hx hb dX7_runText_6 rfl (lv_at hl 0 rfl) ?_
  refine va_get (D := D) (ci := 7) (v := .int y2.2.2.2.2.2.2.1) (C := RX7) (T := TX7) (N := 14) hx hb hts inX7 hown hK hP 0 rfl rfl 12 (by decide) kX7_138 (fun _ h9 => h9) rfl dX7_runText_7 ?_
  refine lv_if_eq (tgt := 17) hx hb dX7_runText_10 (by decide) (fun c10 => ?_) (fun c10 => ?_)
  · have hf := if_t c10 hf
    refine lv_iconst (v := 0) hx hb dX7_runText_17 (by decide) ?_
    exact J18 S_thrown y2.1 S_saved S_savedMany y2.2.1 y2.2.2.1 y2.2.2.2.1 y2.2.2.2.2.1 y2.2.2.2.2.2.1 y2.2.2.2.2.2.2.1 y2.2.2.2.2.2.2.2 (0 : Int32) _ _ _ hf hP hD hS (lv_sub hl [0] rfl)
  · have hf := if_f c10 hf
    refine lv_iconst (v := 1) hx hb dX7_runText_13 (by decide) ?_
    refine lv_goto (tgt := 18) hx hb dX7_runText_14 (by decide) ?_
    exact J18 S_thrown y2.1 S_saved S_savedMany y2.2.1 y2.2.2.1 y2.2.2.2.1 y2.2.2.2.2.1 y2.2.2.2.2.2.1 y2.2.2.2.2.2.2.1 y2.2.2.2.2.2.2.2 (1 : Int32) _ _ _ hf hP hD hS (lv_sub hl [0] rfl)
set_option maxHeartbeats 8000000 in
set_option maxRecDepth 100000 in
theorem c_X7_undo (l : Launch) (D : va_G) (cI cZ cII cJ cM : ClassId) (aS : Nat → Nat) (S_thrown : Int32) (S_s : Nat → Int32) (S_aside : Nat → Int32) (S_saved : Nat → Int32) (S_savedMany : Int32) (S_text : Nat → Int32) (S_length : Int32) (S_fetched : Nat → Int32) (S_predicted : Nat → Int32) (S_fetchedMany : Int32) (S_fetchedWay : Int32) (S_spot : Int32) (S_isWrong : Int32) (S_executedByText : Int32) (sz : Nat) (y : (Int32) × (Int32) × (Nat → Int32) × (Int32)) (hf : m_X7_undo S_saved S_thrown S_s S_savedMany = some y) : Met l yX7_undo wsX7_undo ({ frames := 1, cells := 0, slots := 0, locals := 21 } : Room) (va_Pc [.ref (aS 0)] (pzPre D (zT cI cZ cII cJ cM) (wX7 cI cZ cII aS S_thrown S_s S_aside S_saved S_savedMany S_text S_length S_fetched S_predicted S_fetchedMany S_fetchedWay S_spot S_isWrong S_executedByText ++ []) sz)) (va_Qi (fun v (_ : Unit) => v = y.1) (fun _ t => pzB D (zT cI cZ cII cJ cM) (va_A (wX7 cI cZ cII aS S_thrown S_s S_aside S_saved S_savedMany S_text S_length S_fetched S_predicted S_fetchedMany S_fetchedWay S_spot S_isWrong S_executedByText ++ []) sz) (wX7 cI cZ cII aS y.2.1 y.2.2.1 S_aside S_saved y.2.2.2 S_text S_length S_fetched S_predicted S_fetchedMany S_fetchedWay S_spot S_isWrong S_executedByText ++ []) t) (va_A (wX7 cI cZ cII aS S_thrown S_s S_aside S_saved S_savedMany S_text S_length S_fetched S_predicted S_fetchedMany S_fetchedWay S_spot S_isWrong S_executedByText ++ []) sz)) 0 0 (va_A (wX7 cI cZ cII aS S_thrown S_s S_aside S_saved S_savedMany S_text S_length S_fetched S_predicted S_fetchedMany S_fetchedWay S_spot S_isWrong S_executedByText ++ []) sz) := by
  refine z_meti (cc := cX7_undo) (maxL := 2) (by decide) rfl (Nat.le_of_ble_eq_true rfl) ?_
  intro p e s m args below meth c A ls Q H locs F hP hD hS hl hret
  obtain ⟨hx, hb, hml, hown, hts, hN, hK, hA⟩ := F
  have hown : s.vm.findClass RX7 = some m.cls := hown
  have hl : lv_has ls 2 [(0, .ref (aS 0))] := hl
  have inX7 : ∀ w ∈ u_ws RX7 TX7 14, w ∈ wsX7_undo := by decide +kernel
  have kX7_7 := hts (.fieldLink RX7 7 "TraceCacheModel" "s" "[I") (by decide +kernel)
  have kX7_16 := hts (.fieldLink RX7 16 "TraceCacheModel" "saved" "[I") (by decide +kernel)
  have kX7_40 := hts (.fieldLink RX7 40 "TraceCacheModel" "savedMany" "I") (by decide +kernel)
  have J33 : ∀ (n33 : Nat), ∀ (S_thrown : Int32) (S_s : Nat → Int32) (S_savedMany : Int32) (x1 : Int32) (H : Heap) (locs : List Loc) (ls : Array Slot), m_X7_undo_33 S_saved n33 S_thrown S_s S_savedMany x1 = some y → va_P D vwCl (wX7 cI cZ cII aS S_thrown S_s S_aside S_saved S_savedMany S_text S_length S_fetched S_predicted S_fetchedMany S_fetchedWay S_spot S_isWrong S_executedByText ++ []) H → va_D A (wX7 cI cZ cII aS S_thrown S_s S_aside S_saved S_savedMany S_text S_length S_fetched S_predicted S_fetchedMany S_fetchedWay S_spot S_isWrong S_executedByText ++ []) → va_S A s.heap H locs → lv_has ls 2 [(0, .ref (aS 0)), (1, .int x1)] → W p l e ({ frames := 1, cells := 0, slots := 0, locals := 21 } : Room) s m args below meth c H locs 0 0 Q (F0 m 33 ls []) := by
    intro n33
    induction n33 with
    | zero =>
      intro S_thrown S_s S_savedMany x1 H locs ls hf hP hD hS hl
      rw [m_X7_undo_33] at hf
      cases hf
    | succ n33 ih33 =>
      intro S_thrown S_s S_savedMany x1 H locs ls hf hP hD hS hl
      rw [m_X7_undo_33] at hf
      refine lv_iload_n hx hb dX7_undo_33 rfl (lv_at hl 1 rfl) ?_
      refine lv_sipush (v := 389) hx hb dX7_undo_34 (by decide) ?_
      refine lv_icmp_ge (tgt := 67) hx hb dX7_undo_37 (by decide) (fun c37 => ?_) (fun c37 => ?_)
      · have hf := if_t c37 hf
        refine lv_aload_n hx hb dX7_undo_67 rfl (lv_at hl 0 rfl) ?_
        refine va_get (D := D) (ci := 7) (v := .int S_savedMany) (C := RX7) (T := TX7) (N := 14) hx hb hts inX7 hown hK hP 0 rfl rfl 4 (by decide) kX7_40 (fun _ h9 => h9) rfl dX7_undo_68 ?_
        obtain rfl := Option.some.inj hf
        exact hret _ _ _ _ _ dX7_undo_71 rfl hP hD hS
      · have hf := if_f c37 hf
        refine lv_aload_n hx hb dX7_undo_40 rfl (lv_at hl 0 rfl) ?_
        refine va_get (D := D) (ci := 7) (v := .ref (aS 1)) (C := RX7) (T := TX7) (N := 14) hx hb hts inX7 hown hK hP 0 rfl rfl 1 (by decide) kX7_7 (fun _ h9 => h9) rfl dX7_undo_41 ?_
        refine lv_iload_n hx hb dX7_undo_44 rfl (lv_at hl 1 rfl) ?_
        refine lv_aload_n hx hb dX7_undo_45 rfl (lv_at hl 0 rfl) ?_
        refine va_get (D := D) (ci := 7) (v := .ref (aS 3)) (C := RX7) (T := TX7) (N := 14) hx hb hts inX7 hown hK hP 0 rfl rfl 3 (by decide) kX7_16 (fun _ h9 => h9) rfl dX7_undo_46 ?_
        refine lv_sipush (v := 389) hx hb dX7_undo_49 (by decide) ?_
        refine lv_aload_n hx hb dX7_undo_52 rfl (lv_at hl 0 rfl) ?_
        refine va_get (D := D) (ci := 7) (v := .int S_savedMany) (C := RX7) (T := TX7) (N := 14) hx hb hts inX7 hown hK hP 0 rfl rfl 4 (by decide) kX7_40 (fun _ h9 => h9) rfl dX7_undo_53 ?_
        refine lv_imul hx hb dX7_undo_56 ?_
        refine lv_iload_n hx hb dX7_undo_57 rfl (lv_at hl 1 rfl) ?_
        refine lv_iadd hx hb dX7_undo_58 ?_
        refine lv_topi (fun v59 ev59 => ?_)
        have hf := bd_t ev59 hf
        obtain ⟨g59, hf⟩ := gd_t hf
        refine va_iald hx hb hK hP 3 0 rfl rfl (inb_t g59) dX7_undo_59 ?_
        obtain ⟨g60, hf⟩ := gd_t hf
        refine va_iast hx hb hK hP hD hS 1 0 rfl rfl (inb_t g60) dX7_undo_60 (fun H locs hP hD hS => ?_)
        obtain ⟨S_s_60, eS_s_60⟩ : ∃ z : Nat → Int32, z = upd S_s (Int32.toNatClampNeg x1) (S_saved (Int32.toNatClampNeg v59)) := ⟨_, rfl⟩
        have hf := bd_t eS_s_60 hf
        have hP : va_P D vwCl (wX7 cI cZ cII aS S_thrown S_s_60 S_aside S_saved S_savedMany S_text S_length S_fetched S_predicted S_fetchedMany S_fetchedWay S_spot S_isWrong S_executedByText ++ []) H := by rw [eS_s_60]; exact hP
        have hD : va_D A (wX7 cI cZ cII aS S_thrown S_s_60 S_aside S_saved S_savedMany S_text S_length S_fetched S_predicted S_fetchedMany S_fetchedWay S_spot S_isWrong S_executedByText ++ []) := by rw [eS_s_60]; exact hD
        obtain ⟨v61, ev61⟩ : ∃ z : Int32, z = x1 + (1 : Int32) := ⟨_, rfl⟩
        have hf := bd_t ev61 hf
        refine lv_iinc (v := v61) (lv' := [(1, .int v61), (0, .ref (aS 0))]) hx hb dX7_undo_61 hl (k := 1) rfl (by rw [ev61]; rfl) (by decide) rfl (fun ls hl => ?_)
        refine lv_goto (tgt := 33) hx hb dX7_undo_64 (by decide) ?_
        exact ih33 S_thrown S_s_60 S_savedMany v61 _ _ _ hf hP hD hS (lv_sub hl [1, 0] rfl)
  have J13 : ∀ (S_thrown : Int32) (S_s : Nat → Int32) (S_savedMany : Int32) (k1 : Int32) (H : Heap) (locs : List Loc) (ls : Array Slot), m_X7_undo_13 S_saved S_thrown S_s S_savedMany k1 = some y → va_P D vwCl (wX7 cI cZ cII aS S_thrown S_s S_aside S_saved S_savedMany S_text S_length S_fetched S_predicted S_fetchedMany S_fetchedWay S_spot S_isWrong S_executedByText ++ []) H → va_D A (wX7 cI cZ cII aS S_thrown S_s S_aside S_saved S_savedMany S_text S_length S_fetched S_predicted S_fetchedMany S_fetchedWay S_spot S_isWrong S_executedByText ++ []) → va_S A s.heap H locs → lv_has ls 2 [(0, .ref (aS 0))] → W p l e ({ frames := 1, cells := 0, slots := 0, locals := 21 } : Room) s m args below meth c H locs 0 0 Q (F0 m 13 ls [.int k1, .ref (aS 0)]) := by
    intro S_thrown S_s S_savedMany k1 H locs ls hf hP hD hS hl
    unfold m_X7_undo_13 at hf
    obtain ⟨y13, h13, hf⟩ := bn_t hf
    refine z_ai (x := []) (b := wX7 cI cZ cII aS S_thrown S_s S_aside S_saved S_savedMany S_text S_length S_fetched S_predicted S_fetchedMany S_fetchedWay S_spot S_isWrong S_executedByText ++ []) (y := ([] : va_W)) (b1 := wX7 cI cZ cII aS y13.2 S_s S_aside S_saved S_savedMany S_text S_length S_fetched S_predicted S_fetchedMany S_fetchedWay S_spot S_isWrong S_executedByText ++ []) (wsn := wX7 cI cZ cII aS y13.2 S_s S_aside S_saved S_savedMany S_text S_length S_fetched S_predicted S_fetchedMany S_fetchedWay S_spot S_isWrong S_executedByText ++ []) (va_runV (As := [.int k1]) (rest := []) ⟨hx, hb, hml, hown, hts⟩ (c_X7_holds l D cI cZ cII cJ cM aS S_thrown S_s S_aside S_saved S_savedMany S_text S_length S_fetched S_predicted S_fetchedMany S_fetchedWay S_spot S_isWrong S_executedByText k1 H.size y13 h13) (cwV 1 hts gX7_undo_X7_holds rfl rfl rfl (by decide +kernel) ⟨Nat.le_of_ble_eq_true rfl, Nat.le_of_ble_eq_true rfl⟩) (pz_V (x := []) (b := wX7 cI cZ cII aS S_thrown S_s S_aside S_saved S_savedMany S_text S_length S_fetched S_predicted S_fetchedMany S_fetchedWay S_spot S_isWrong S_executedByText ++ []) (y := ([] : va_W)) (C := RX7) (T := TX7) (N := 14) (ci := 7) (As := [.int k1]) (bi := 0) hK hN hP hD (by simp only [List.append_assoc, List.nil_append, List.append_nil]) rfl rfl) rfl rfl hl.1 rfl (lv_room (Nat.le_of_ble_eq_true rfl)) dX7_undo_13 ⟨Nat.le_of_ble_eq_true rfl, Nat.le_of_ble_eq_true rfl⟩) hP hD hS hA (by simp only [List.append_assoc, List.nil_append, List.append_nil]) (by simp only [List.append_assoc, List.nil_append, List.append_nil]) (fun H locs hP hD hS => ?_)
    refine lv_if_ne (tgt := 21) hx hb dX7_undo_16 (by decide) (fun c16 => ?_) (fun c16 => ?_)
    · have hf := if_f c16 hf
      refine lv_aload_n hx hb dX7_undo_21 rfl (lv_at hl 0 rfl) ?_
      refine lv_dup hx hb dX7_undo_22 rfl ?_
      refine va_get (D := D) (ci := 7) (v := .int S_savedMany) (C := RX7) (T := TX7) (N := 14) hx hb hts inX7 hown hK hP 0 rfl rfl 4 (by decide) kX7_40 (fun _ h9 => h9) rfl dX7_undo_23 ?_
      refine lv_iconst (v := 1) hx hb dX7_undo_26 (by decide) ?_
      refine lv_isub hx hb dX7_undo_27 ?_
      refine lv_topi (fun v28 ev28 => ?_)
      have hf := bd_t ev28 hf
      refine va_put (D := D) (ci := 7) (v := .int v28) (ty := .int) (C := RX7) (T := TX7) (N := 14) hx hb hts inX7 tyX7 tyX7_ok nmX7 hown hK hP hD hS 0 rfl rfl 4 (by decide) kX7_40 (fun _ h9 => h9) rfl (by decide +kernel) rfl rfl (Nat.le_of_ble_eq_true rfl) dX7_undo_28 (fun H locs hP hD hS => ?_)
      have hP : va_P D vwCl (wX7 cI cZ cII aS y13.2 S_s S_aside S_saved v28 S_text S_length S_fetched S_predicted S_fetchedMany S_fetchedWay S_spot S_isWrong S_executedByText ++ []) H := hP
      have hD : va_D A (wX7 cI cZ cII aS y13.2 S_s S_aside S_saved v28 S_text S_length S_fetched S_predicted S_fetchedMany S_fetchedWay S_spot S_isWrong S_executedByText ++ []) := hD
      refine lv_iconst (v := 0) hx hb dX7_undo_31 (by decide) ?_
      refine lv_istore_n (lv' := [(1, .int (0 : Int32)), (0, .ref (aS 0))]) hx hb dX7_undo_32 rfl hl (by decide) rfl (fun ls hl => ?_)
      exact J33 4000 y13.2 S_s v28 (0 : Int32) _ _ _ hf hP hD hS (lv_sub hl [1, 0] rfl)
    · have hf := if_t c16 hf
      refine lv_iconst (v := 0) hx hb dX7_undo_19 (by decide) ?_
      obtain rfl := Option.some.inj hf
      exact hret _ _ _ _ _ dX7_undo_20 rfl hP hD hS
  unfold m_X7_undo at hf
  refine lv_aload_n hx hb dX7_undo_0 rfl (lv_at hl 0 rfl) ?_
  refine lv_aload_n hx hb dX7_undo_1 rfl (lv_at hl 0 rfl) ?_
  refine va_get (D := D) (ci := 7) (v := .int S_savedMany) (C := RX7) (T := TX7) (N := 14) hx hb hts inX7 hown hK hP 0 rfl rfl 4 (by decide) kX7_40 (fun _ h9 => h9) rfl dX7_undo_2 ?_
  refine lv_if_le (tgt := 12) hx hb dX7_undo_5 (by decide) (fun c5 => ?_) (fun c5 => ?_)
  · have hf := if_t c5 hf
    refine lv_iconst (v := 1) hx hb dX7_undo_12 (by decide) ?_
    exact J13 S_thrown S_s S_savedMany (1 : Int32) _ _ _ hf hP hD hS (lv_sub hl [0] rfl)
  · have hf := if_f c5 hf
    refine lv_iconst (v := 0) hx hb dX7_undo_8 (by decide) ?_
    refine lv_goto (tgt := 13) hx hb dX7_undo_9 (by decide) ?_
    exact J13 S_thrown S_s S_savedMany (0 : Int32) _ _ _ hf hP hD hS (lv_sub hl [0] rfl)
set_option maxHeartbeats 8000000 in
set_option maxRecDepth 100000 in
theorem c_X7_partOf (l : Launch) (D : va_G) (cI cZ cII cJ cM : ClassId) (aS : Nat → Nat) (S_thrown : Int32) (S_s : Nat → Int32) (S_aside : Nat → Int32) (S_saved : Nat → Int32) (S_savedMany : Int32) (S_text : Nat → Int32) (S_length : Int32) (S_fetched : Nat → Int32) (S_predicted : Nat → Int32) (S_fetchedMany : Int32) (S_fetchedWay : Int32) (S_spot : Int32) (S_isWrong : Int32) (S_executedByText : Int32) (x1 : Int32) (x2 : Int32) (sz : Nat) (y : (Int32)) (hf : m_X7_partOf S_s x1 x2 = some y) : Met l yX7_partOf wsX7_partOf ({ frames := 3, cells := 0, slots := 0, locals := 65 } : Room) (va_Pc [.ref (aS 0), .int x1, .int x2] (pzPre D (zT cI cZ cII cJ cM) (wX7 cI cZ cII aS S_thrown S_s S_aside S_saved S_savedMany S_text S_length S_fetched S_predicted S_fetchedMany S_fetchedWay S_spot S_isWrong S_executedByText ++ []) sz)) (va_Qi (fun v (_ : Unit) => v = y) (fun _ t => pzB D (zT cI cZ cII cJ cM) (va_A (wX7 cI cZ cII aS S_thrown S_s S_aside S_saved S_savedMany S_text S_length S_fetched S_predicted S_fetchedMany S_fetchedWay S_spot S_isWrong S_executedByText ++ []) sz) (wX7 cI cZ cII aS S_thrown S_s S_aside S_saved S_savedMany S_text S_length S_fetched S_predicted S_fetchedMany S_fetchedWay S_spot S_isWrong S_executedByText ++ []) t) (va_A (wX7 cI cZ cII aS S_thrown S_s S_aside S_saved S_savedMany S_text S_length S_fetched S_predicted S_fetchedMany S_fetchedWay S_spot S_isWrong S_executedByText ++ []) sz)) 0 0 (va_A (wX7 cI cZ cII aS S_thrown S_s S_aside S_saved S_savedMany S_text S_length S_fetched S_predicted S_fetchedMany S_fetchedWay S_spot S_isWrong S_executedByText ++ []) sz) := by
  refine z_meti (cc := cX7_partOf) (maxL := 3) (by decide) rfl (Nat.le_of_ble_eq_true rfl) ?_
  intro p e s m args below meth c A ls Q H locs F hP hD hS hl hret
  obtain ⟨hx, hb, hml, hown, hts, hN, hK, hA⟩ := F
  have hown : s.vm.findClass RX7 = some m.cls := hown
  have hl : lv_has ls 3 [(0, .ref (aS 0)), (1, .int x1), (2, .int x2)] := hl
  have inX7 : ∀ w ∈ u_ws RX7 TX7 14, w ∈ wsX7_partOf := by decide +kernel
  have kX7_7 := hts (.fieldLink RX7 7 "TraceCacheModel" "s" "[I") (by decide +kernel)
  have J78 : ∀ (k0 : Int32) (H : Heap) (locs : List Loc) (ls : Array Slot), m_X7_partOf_78 S_s x1 x2 k0 = some y → va_P D vwCl (wX7 cI cZ cII aS S_thrown S_s S_aside S_saved S_savedMany S_text S_length S_fetched S_predicted S_fetchedMany S_fetchedWay S_spot S_isWrong S_executedByText ++ []) H → va_D A (wX7 cI cZ cII aS S_thrown S_s S_aside S_saved S_savedMany S_text S_length S_fetched S_predicted S_fetchedMany S_fetchedWay S_spot S_isWrong S_executedByText ++ []) → va_S A s.heap H locs → lv_has ls 3 [] → W p l e ({ frames := 3, cells := 0, slots := 0, locals := 65 } : Room) s m args below meth c H locs 0 0 Q (F0 m 78 ls [.int k0]) := by
    intro k0 H locs ls hf hP hD hS hl
    unfold m_X7_partOf_78 at hf
    obtain rfl := Option.some.inj hf
    exact hret _ _ _ _ _ dX7_partOf_78 rfl hP hD hS
  unfold m_X7_partOf at hf
  refine lv_iload_n hx hb dX7_partOf_0 rfl (lv_at hl 2 rfl) ?_
  by_cases c1_0 : x2 = (0 : Int32)
  · have hf := if_t c1_0 hf
    refine lv_tableIn (off := 39) (tgt := 40) hx hb dX7_partOf_1 (by rw [c1_0]; decide) (by rw [c1_0]; decide) (by rw [c1_0]; decide) (by decide) ?_
    refine lv_aload_n hx hb dX7_partOf_40 rfl (lv_at hl 0 rfl) ?_
    refine va_get (D := D) (ci := 7) (v := .ref (aS 1)) (C := RX7) (T := TX7) (N := 14) hx hb hts inX7 hown hK hP 0 rfl rfl 1 (by decide) kX7_7 (fun _ h9 => h9) rfl dX7_partOf_41 ?_
    refine lv_iload_n hx hb dX7_partOf_44 rfl (lv_at hl 1 rfl) ?_
    refine lv_iconst (v := 0) hx hb dX7_partOf_45 (by decide) ?_
    obtain ⟨y46, h46, hf⟩ := bn_t hf
    refine z_ai (x := []) (b := ([] : va_W)) (y := wX7 cI cZ cII aS S_thrown S_s S_aside S_saved S_savedMany S_text S_length S_fetched S_predicted S_fetchedMany S_fetchedWay S_spot S_isWrong S_executedByText ++ []) (b1 := ([] : va_W)) (wsn := wX7 cI cZ cII aS S_thrown S_s S_aside S_saved S_savedMany S_text S_length S_fetched S_predicted S_fetchedMany S_fetchedWay S_spot S_isWrong S_executedByText ++ []) (va_runS (As := [.int x1, .int (0 : Int32)]) (rest := [.ref (aS 1)]) ⟨hx, hb, hml, hown, hts⟩ (c_X7_of l D cI cZ cII cJ cM x1 (0 : Int32) H.size y46 h46) (va_cwS 2 hts gX7_partOf_X7_of rfl rfl rfl (by decide +kernel) ⟨Nat.le_of_ble_eq_true rfl, Nat.le_of_ble_eq_true rfl⟩) (pz_S (x := []) (b := ([] : va_W)) (y := wX7 cI cZ cII aS S_thrown S_s S_aside S_saved S_savedMany S_text S_length S_fetched S_predicted S_fetchedMany S_fetchedWay S_spot S_isWrong S_executedByText ++ []) hK hN hP hD (by simp only [List.append_assoc, List.nil_append, List.append_nil])) rfl rfl hl.1 rfl (lv_room (Nat.le_of_ble_eq_true rfl)) dX7_partOf_46 ⟨Nat.le_of_ble_eq_true rfl, Nat.le_of_ble_eq_true rfl⟩) hP hD hS hA (by simp only [List.append_assoc, List.nil_append, List.append_nil]) (by simp only [List.append_assoc, List.nil_append, List.append_nil]) (fun H locs hP hD hS => ?_)
    obtain ⟨g49, hf⟩ := gd_t hf
    refine va_iald hx hb hK hP 1 0 rfl rfl (inb_t g49) dX7_partOf_49 ?_
    refine lv_topi (fun v50 ev50 => ?_)
    have hf := bd_t ev50 hf
    obtain rfl := Option.some.inj hf
    exact hret _ _ _ _ _ dX7_partOf_50 rfl hP hD hS
  · have hf := if_f c1_0 hf
    by_cases c1_1 : x2 = (1 : Int32)
    · have hf := if_t c1_1 hf
      refine lv_tableIn (off := 50) (tgt := 51) hx hb dX7_partOf_1 (by rw [c1_1]; decide) (by rw [c1_1]; decide) (by rw [c1_1]; decide) (by decide) ?_
      refine lv_aload_n hx hb dX7_partOf_51 rfl (lv_at hl 0 rfl) ?_
      refine va_get (D := D) (ci := 7) (v := .ref (aS 1)) (C := RX7) (T := TX7) (N := 14) hx hb hts inX7 hown hK hP 0 rfl rfl 1 (by decide) kX7_7 (fun _ h9 => h9) rfl dX7_partOf_52 ?_
      refine lv_iload_n hx hb dX7_partOf_55 rfl (lv_at hl 1 rfl) ?_
      refine lv_iconst (v := 0) hx hb dX7_partOf_56 (by decide) ?_
      obtain ⟨y57, h57, hf⟩ := bn_t hf
      refine z_ai (x := []) (b := ([] : va_W)) (y := wX7 cI cZ cII aS S_thrown S_s S_aside S_saved S_savedMany S_text S_length S_fetched S_predicted S_fetchedMany S_fetchedWay S_spot S_isWrong S_executedByText ++ []) (b1 := ([] : va_W)) (wsn := wX7 cI cZ cII aS S_thrown S_s S_aside S_saved S_savedMany S_text S_length S_fetched S_predicted S_fetchedMany S_fetchedWay S_spot S_isWrong S_executedByText ++ []) (va_runS (As := [.int x1, .int (0 : Int32)]) (rest := [.ref (aS 1)]) ⟨hx, hb, hml, hown, hts⟩ (c_X7_of l D cI cZ cII cJ cM x1 (0 : Int32) H.size y57 h57) (va_cwS 2 hts gX7_partOf_X7_of rfl rfl rfl (by decide +kernel) ⟨Nat.le_of_ble_eq_true rfl, Nat.le_of_ble_eq_true rfl⟩) (pz_S (x := []) (b := ([] : va_W)) (y := wX7 cI cZ cII aS S_thrown S_s S_aside S_saved S_savedMany S_text S_length S_fetched S_predicted S_fetchedMany S_fetchedWay S_spot S_isWrong S_executedByText ++ []) hK hN hP hD (by simp only [List.append_assoc, List.nil_append, List.append_nil])) rfl rfl hl.1 rfl (lv_room (Nat.le_of_ble_eq_true rfl)) dX7_partOf_57 ⟨Nat.le_of_ble_eq_true rfl, Nat.le_of_ble_eq_true rfl⟩) hP hD hS hA (by simp only [List.append_assoc, List.nil_append, List.append_nil]) (by simp only [List.append_assoc, List.nil_append, List.append_nil]) (fun H locs hP hD hS => ?_)
      obtain ⟨g60, hf⟩ := gd_t hf
      refine va_iald hx hb hK hP 1 0 rfl rfl (inb_t g60) dX7_partOf_60 ?_
      refine lv_if_ne (tgt := 68) hx hb dX7_partOf_61 (by decide) (fun c61 => ?_) (fun c61 => ?_)
      · have hf := if_f c61 hf
        refine lv_aload_n hx hb dX7_partOf_68 rfl (lv_at hl 0 rfl) ?_
        refine va_get (D := D) (ci := 7) (v := .ref (aS 1)) (C := RX7) (T := TX7) (N := 14) hx hb hts inX7 hown hK hP 0 rfl rfl 1 (by decide) kX7_7 (fun _ h9 => h9) rfl dX7_partOf_69 ?_
        refine lv_iload_n hx hb dX7_partOf_72 rfl (lv_at hl 1 rfl) ?_
        refine lv_iconst (v := 1) hx hb dX7_partOf_73 (by decide) ?_
        obtain ⟨y74, h74, hf⟩ := bn_t hf
        refine z_ai (x := []) (b := ([] : va_W)) (y := wX7 cI cZ cII aS S_thrown S_s S_aside S_saved S_savedMany S_text S_length S_fetched S_predicted S_fetchedMany S_fetchedWay S_spot S_isWrong S_executedByText ++ []) (b1 := ([] : va_W)) (wsn := wX7 cI cZ cII aS S_thrown S_s S_aside S_saved S_savedMany S_text S_length S_fetched S_predicted S_fetchedMany S_fetchedWay S_spot S_isWrong S_executedByText ++ []) (va_runS (As := [.int x1, .int (1 : Int32)]) (rest := [.ref (aS 1)]) ⟨hx, hb, hml, hown, hts⟩ (c_X7_of l D cI cZ cII cJ cM x1 (1 : Int32) H.size y74 h74) (va_cwS 2 hts gX7_partOf_X7_of rfl rfl rfl (by decide +kernel) ⟨Nat.le_of_ble_eq_true rfl, Nat.le_of_ble_eq_true rfl⟩) (pz_S (x := []) (b := ([] : va_W)) (y := wX7 cI cZ cII aS S_thrown S_s S_aside S_saved S_savedMany S_text S_length S_fetched S_predicted S_fetchedMany S_fetchedWay S_spot S_isWrong S_executedByText ++ []) hK hN hP hD (by simp only [List.append_assoc, List.nil_append, List.append_nil])) rfl rfl hl.1 rfl (lv_room (Nat.le_of_ble_eq_true rfl)) dX7_partOf_74 ⟨Nat.le_of_ble_eq_true rfl, Nat.le_of_ble_eq_true rfl⟩) hP hD hS hA (by simp only [List.append_assoc, List.nil_append, List.append_nil]) (by simp only [List.append_assoc, List.nil_append, List.append_nil]) (fun H locs hP hD hS => ?_)
        obtain ⟨g77, hf⟩ := gd_t hf
        refine va_iald hx hb hK hP 1 0 rfl rfl (inb_t g77) dX7_partOf_77 ?_
        exact J78 (S_s (Int32.toNatClampNeg y74)) _ _ _ hf hP hD hS (lv_sub hl [] rfl)
      · have hf := if_t c61 hf
        refine lv_iconst (v := -1) hx hb dX7_partOf_64 (by decide) ?_
        refine lv_goto (tgt := 78) hx hb dX7_partOf_65 (by decide) ?_
        exact J78 (-1 : Int32) _ _ _ hf hP hD hS (lv_sub hl [] rfl)
    · have hf := if_f c1_1 hf
      by_cases c1_2 : x2 = (2 : Int32)
      · have hf := if_t c1_2 hf
        refine lv_tableIn (off := 78) (tgt := 79) hx hb dX7_partOf_1 (by rw [c1_2]; decide) (by rw [c1_2]; decide) (by rw [c1_2]; decide) (by decide) ?_
        refine lv_aload_n hx hb dX7_partOf_79 rfl (lv_at hl 0 rfl) ?_
        refine va_get (D := D) (ci := 7) (v := .ref (aS 1)) (C := RX7) (T := TX7) (N := 14) hx hb hts inX7 hown hK hP 0 rfl rfl 1 (by decide) kX7_7 (fun _ h9 => h9) rfl dX7_partOf_80 ?_
        refine lv_iload_n hx hb dX7_partOf_83 rfl (lv_at hl 1 rfl) ?_
        refine lv_iconst (v := 4) hx hb dX7_partOf_84 (by decide) ?_
        obtain ⟨y85, h85, hf⟩ := bn_t hf
        refine z_ai (x := []) (b := ([] : va_W)) (y := wX7 cI cZ cII aS S_thrown S_s S_aside S_saved S_savedMany S_text S_length S_fetched S_predicted S_fetchedMany S_fetchedWay S_spot S_isWrong S_executedByText ++ []) (b1 := ([] : va_W)) (wsn := wX7 cI cZ cII aS S_thrown S_s S_aside S_saved S_savedMany S_text S_length S_fetched S_predicted S_fetchedMany S_fetchedWay S_spot S_isWrong S_executedByText ++ []) (va_runS (As := [.int x1, .int (4 : Int32)]) (rest := [.ref (aS 1)]) ⟨hx, hb, hml, hown, hts⟩ (c_X7_of l D cI cZ cII cJ cM x1 (4 : Int32) H.size y85 h85) (va_cwS 2 hts gX7_partOf_X7_of rfl rfl rfl (by decide +kernel) ⟨Nat.le_of_ble_eq_true rfl, Nat.le_of_ble_eq_true rfl⟩) (pz_S (x := []) (b := ([] : va_W)) (y := wX7 cI cZ cII aS S_thrown S_s S_aside S_saved S_savedMany S_text S_length S_fetched S_predicted S_fetchedMany S_fetchedWay S_spot S_isWrong S_executedByText ++ []) hK hN hP hD (by simp only [List.append_assoc, List.nil_append, List.append_nil])) rfl rfl hl.1 rfl (lv_room (Nat.le_of_ble_eq_true rfl)) dX7_partOf_85 ⟨Nat.le_of_ble_eq_true rfl, Nat.le_of_ble_eq_true rfl⟩) hP hD hS hA (by simp only [List.append_assoc, List.nil_append, List.append_nil]) (by simp only [List.append_assoc, List.nil_append, List.append_nil]) (fun H locs hP hD hS => ?_)
        obtain ⟨g88, hf⟩ := gd_t hf
        refine va_iald hx hb hK hP 1 0 rfl rfl (inb_t g88) dX7_partOf_88 ?_
        refine lv_topi (fun v89 ev89 => ?_)
        have hf := bd_t ev89 hf
        obtain rfl := Option.some.inj hf
        exact hret _ _ _ _ _ dX7_partOf_89 rfl hP hD hS
      · have hf := if_f c1_2 hf
        by_cases c1_3 : x2 = (3 : Int32)
        · have hf := if_t c1_3 hf
          refine lv_tableIn (off := 89) (tgt := 90) hx hb dX7_partOf_1 (by rw [c1_3]; decide) (by rw [c1_3]; decide) (by rw [c1_3]; decide) (by decide) ?_
          refine lv_aload_n hx hb dX7_partOf_90 rfl (lv_at hl 0 rfl) ?_
          refine va_get (D := D) (ci := 7) (v := .ref (aS 1)) (C := RX7) (T := TX7) (N := 14) hx hb hts inX7 hown hK hP 0 rfl rfl 1 (by decide) kX7_7 (fun _ h9 => h9) rfl dX7_partOf_91 ?_
          refine lv_iload_n hx hb dX7_partOf_94 rfl (lv_at hl 1 rfl) ?_
          refine lv_iconst (v := 3) hx hb dX7_partOf_95 (by decide) ?_
          obtain ⟨y96, h96, hf⟩ := bn_t hf
          refine z_ai (x := []) (b := ([] : va_W)) (y := wX7 cI cZ cII aS S_thrown S_s S_aside S_saved S_savedMany S_text S_length S_fetched S_predicted S_fetchedMany S_fetchedWay S_spot S_isWrong S_executedByText ++ []) (b1 := ([] : va_W)) (wsn := wX7 cI cZ cII aS S_thrown S_s S_aside S_saved S_savedMany S_text S_length S_fetched S_predicted S_fetchedMany S_fetchedWay S_spot S_isWrong S_executedByText ++ []) (va_runS (As := [.int x1, .int (3 : Int32)]) (rest := [.ref (aS 1)]) ⟨hx, hb, hml, hown, hts⟩ (c_X7_of l D cI cZ cII cJ cM x1 (3 : Int32) H.size y96 h96) (va_cwS 2 hts gX7_partOf_X7_of rfl rfl rfl (by decide +kernel) ⟨Nat.le_of_ble_eq_true rfl, Nat.le_of_ble_eq_true rfl⟩) (pz_S (x := []) (b := ([] : va_W)) (y := wX7 cI cZ cII aS S_thrown S_s S_aside S_saved S_savedMany S_text S_length S_fetched S_predicted S_fetchedMany S_fetchedWay S_spot S_isWrong S_executedByText ++ []) hK hN hP hD (by simp only [List.append_assoc, List.nil_append, List.append_nil])) rfl rfl hl.1 rfl (lv_room (Nat.le_of_ble_eq_true rfl)) dX7_partOf_96 ⟨Nat.le_of_ble_eq_true rfl, Nat.le_of_ble_eq_true rfl⟩) hP hD hS hA (by simp only [List.append_assoc, List.nil_append, List.append_nil]) (by simp only [List.append_assoc, List.nil_append, List.append_nil]) (fun H locs hP hD hS => ?_)
          obtain ⟨g99, hf⟩ := gd_t hf
          refine va_iald hx hb hK hP 1 0 rfl rfl (inb_t g99) dX7_partOf_99 ?_
          refine lv_topi (fun v100 ev100 => ?_)
          have hf := bd_t ev100 hf
          obtain rfl := Option.some.inj hf
          exact hret _ _ _ _ _ dX7_partOf_100 rfl hP hD hS
        · have hf := if_f c1_3 hf
          by_cases c1_4 : x2 = (4 : Int32)
          · have hf := if_t c1_4 hf
            refine lv_tableIn (off := 100) (tgt := 101) hx hb dX7_partOf_1 (by rw [c1_4]; decide) (by rw [c1_4]; decide) (by rw [c1_4]; decide) (by decide) ?_
            refine lv_aload_n hx hb dX7_partOf_101 rfl (lv_at hl 0 rfl) ?_
            refine va_get (D := D) (ci := 7) (v := .ref (aS 1)) (C := RX7) (T := TX7) (N := 14) hx hb hts inX7 hown hK hP 0 rfl rfl 1 (by decide) kX7_7 (fun _ h9 => h9) rfl dX7_partOf_102 ?_
            refine lv_iload_n hx hb dX7_partOf_105 rfl (lv_at hl 1 rfl) ?_
            refine lv_iconst (v := 2) hx hb dX7_partOf_106 (by decide) ?_
            obtain ⟨y107, h107, hf⟩ := bn_t hf
            refine z_ai (x := []) (b := ([] : va_W)) (y := wX7 cI cZ cII aS S_thrown S_s S_aside S_saved S_savedMany S_text S_length S_fetched S_predicted S_fetchedMany S_fetchedWay S_spot S_isWrong S_executedByText ++ []) (b1 := ([] : va_W)) (wsn := wX7 cI cZ cII aS S_thrown S_s S_aside S_saved S_savedMany S_text S_length S_fetched S_predicted S_fetchedMany S_fetchedWay S_spot S_isWrong S_executedByText ++ []) (va_runS (As := [.int x1, .int (2 : Int32)]) (rest := [.ref (aS 1)]) ⟨hx, hb, hml, hown, hts⟩ (c_X7_of l D cI cZ cII cJ cM x1 (2 : Int32) H.size y107 h107) (va_cwS 2 hts gX7_partOf_X7_of rfl rfl rfl (by decide +kernel) ⟨Nat.le_of_ble_eq_true rfl, Nat.le_of_ble_eq_true rfl⟩) (pz_S (x := []) (b := ([] : va_W)) (y := wX7 cI cZ cII aS S_thrown S_s S_aside S_saved S_savedMany S_text S_length S_fetched S_predicted S_fetchedMany S_fetchedWay S_spot S_isWrong S_executedByText ++ []) hK hN hP hD (by simp only [List.append_assoc, List.nil_append, List.append_nil])) rfl rfl hl.1 rfl (lv_room (Nat.le_of_ble_eq_true rfl)) dX7_partOf_107 ⟨Nat.le_of_ble_eq_true rfl, Nat.le_of_ble_eq_true rfl⟩) hP hD hS hA (by simp only [List.append_assoc, List.nil_append, List.append_nil]) (by simp only [List.append_assoc, List.nil_append, List.append_nil]) (fun H locs hP hD hS => ?_)
            obtain ⟨g110, hf⟩ := gd_t hf
            refine va_iald hx hb hK hP 1 0 rfl rfl (inb_t g110) dX7_partOf_110 ?_
            refine lv_topi (fun v111 ev111 => ?_)
            have hf := bd_t ev111 hf
            obtain rfl := Option.some.inj hf
            exact hret _ _ _ _ _ dX7_partOf_111 rfl hP hD hS
          · have hf := if_f c1_4 hf
            by_cases c1_5 : x2 = (5 : Int32)
            · have hf := if_t c1_5 hf
              refine lv_tableIn (off := 111) (tgt := 112) hx hb dX7_partOf_1 (by rw [c1_5]; decide) (by rw [c1_5]; decide) (by rw [c1_5]; decide) (by decide) ?_
              refine lv_aload_n hx hb dX7_partOf_112 rfl (lv_at hl 0 rfl) ?_
              refine va_get (D := D) (ci := 7) (v := .ref (aS 1)) (C := RX7) (T := TX7) (N := 14) hx hb hts inX7 hown hK hP 0 rfl rfl 1 (by decide) kX7_7 (fun _ h9 => h9) rfl dX7_partOf_113 ?_
              refine lv_iload_n hx hb dX7_partOf_116 rfl (lv_at hl 1 rfl) ?_
              refine lv_iconst (v := 5) hx hb dX7_partOf_117 (by decide) ?_
              obtain ⟨y118, h118, hf⟩ := bn_t hf
              refine z_ai (x := []) (b := ([] : va_W)) (y := wX7 cI cZ cII aS S_thrown S_s S_aside S_saved S_savedMany S_text S_length S_fetched S_predicted S_fetchedMany S_fetchedWay S_spot S_isWrong S_executedByText ++ []) (b1 := ([] : va_W)) (wsn := wX7 cI cZ cII aS S_thrown S_s S_aside S_saved S_savedMany S_text S_length S_fetched S_predicted S_fetchedMany S_fetchedWay S_spot S_isWrong S_executedByText ++ []) (va_runS (As := [.int x1, .int (5 : Int32)]) (rest := [.ref (aS 1)]) ⟨hx, hb, hml, hown, hts⟩ (c_X7_of l D cI cZ cII cJ cM x1 (5 : Int32) H.size y118 h118) (va_cwS 2 hts gX7_partOf_X7_of rfl rfl rfl (by decide +kernel) ⟨Nat.le_of_ble_eq_true rfl, Nat.le_of_ble_eq_true rfl⟩) (pz_S (x := []) (b := ([] : va_W)) (y := wX7 cI cZ cII aS S_thrown S_s S_aside S_saved S_savedMany S_text S_length S_fetched S_predicted S_fetchedMany S_fetchedWay S_spot S_isWrong S_executedByText ++ []) hK hN hP hD (by simp only [List.append_assoc, List.nil_append, List.append_nil])) rfl rfl hl.1 rfl (lv_room (Nat.le_of_ble_eq_true rfl)) dX7_partOf_118 ⟨Nat.le_of_ble_eq_true rfl, Nat.le_of_ble_eq_true rfl⟩) hP hD hS hA (by simp only [List.append_assoc, List.nil_append, List.append_nil]) (by simp only [List.append_assoc, List.nil_append, List.append_nil]) (fun H locs hP hD hS => ?_)
              obtain ⟨g121, hf⟩ := gd_t hf
              refine va_iald hx hb hK hP 1 0 rfl rfl (inb_t g121) dX7_partOf_121 ?_
              refine lv_topi (fun v122 ev122 => ?_)
              have hf := bd_t ev122 hf
              obtain rfl := Option.some.inj hf
              exact hret _ _ _ _ _ dX7_partOf_122 rfl hP hD hS
            · have hf := if_f c1_5 hf
              refine lv_tableOut (tgt := 123) hx hb dX7_partOf_1 (by rcases Int.lt_or_le (x2).toInt 0 with h | h; exact Or.inl h; rcases Int.lt_or_le 5 (x2).toInt with h2 | h2; exact Or.inr h2; exfalso; have h3 : (x2).toInt = 0 ∨ (x2).toInt = 1 ∨ (x2).toInt = 2 ∨ (x2).toInt = 3 ∨ (x2).toInt = 4 ∨ (x2).toInt = 5 := (by omega); rcases h3 with h3 | h3 | h3 | h3 | h3 | h3; exact c1_0 (z_i32 h3); exact c1_1 (z_i32 h3); exact c1_2 (z_i32 h3); exact c1_3 (z_i32 h3); exact c1_4 (z_i32 h3); exact c1_5 (z_i32 h3)) (by decide) ?_
              refine lv_aload_n hx hb dX7_partOf_123 rfl (lv_at hl 0 rfl) ?_
              refine lv_iload_n hx hb dX7_partOf_124 rfl (lv_at hl 1 rfl) ?_
              obtain ⟨y125, h125, hf⟩ := bn_t hf
              refine z_ai (x := []) (b := wX7 cI cZ cII aS S_thrown S_s S_aside S_saved S_savedMany S_text S_length S_fetched S_predicted S_fetchedMany S_fetchedWay S_spot S_isWrong S_executedByText ++ []) (y := ([] : va_W)) (b1 := wX7 cI cZ cII aS S_thrown S_s S_aside S_saved S_savedMany S_text S_length S_fetched S_predicted S_fetchedMany S_fetchedWay S_spot S_isWrong S_executedByText ++ []) (wsn := wX7 cI cZ cII aS S_thrown S_s S_aside S_saved S_savedMany S_text S_length S_fetched S_predicted S_fetchedMany S_fetchedWay S_spot S_isWrong S_executedByText ++ []) (va_runV (As := [.int x1]) (rest := []) ⟨hx, hb, hml, hown, hts⟩ (c_X7_predictedSuccessor l D cI cZ cII cJ cM aS S_thrown S_s S_aside S_saved S_savedMany S_text S_length S_fetched S_predicted S_fetchedMany S_fetchedWay S_spot S_isWrong S_executedByText x1 H.size y125 h125) (cwV 1 hts gX7_partOf_X7_predictedSuccessor rfl rfl rfl (by decide +kernel) ⟨Nat.le_of_ble_eq_true rfl, Nat.le_of_ble_eq_true rfl⟩) (pz_V (x := []) (b := wX7 cI cZ cII aS S_thrown S_s S_aside S_saved S_savedMany S_text S_length S_fetched S_predicted S_fetchedMany S_fetchedWay S_spot S_isWrong S_executedByText ++ []) (y := ([] : va_W)) (C := RX7) (T := TX7) (N := 14) (ci := 7) (As := [.int x1]) (bi := 0) hK hN hP hD (by simp only [List.append_assoc, List.nil_append, List.append_nil]) rfl rfl) rfl rfl hl.1 rfl (lv_room (Nat.le_of_ble_eq_true rfl)) dX7_partOf_125 ⟨Nat.le_of_ble_eq_true rfl, Nat.le_of_ble_eq_true rfl⟩) hP hD hS hA (by simp only [List.append_assoc, List.nil_append, List.append_nil]) (by simp only [List.append_assoc, List.nil_append, List.append_nil]) (fun H locs hP hD hS => ?_)
              obtain rfl := Option.some.inj hf
              exact hret _ _ _ _ _ dX7_partOf_128 rfl hP hD hS
set_option maxHeartbeats 8000000 in
set_option maxRecDepth 100000 in
theorem c_X7_instruction (l : Launch) (D : va_G) (cI cZ cII cJ cM : ClassId) (aS : Nat → Nat) (S_thrown : Int32) (S_s : Nat → Int32) (S_aside : Nat → Int32) (S_saved : Nat → Int32) (S_savedMany : Int32) (S_text : Nat → Int32) (S_length : Int32) (S_fetched : Nat → Int32) (S_predicted : Nat → Int32) (S_fetchedMany : Int32) (S_fetchedWay : Int32) (S_spot : Int32) (S_isWrong : Int32) (S_executedByText : Int32) (x1 : Int32) (x2 : Int32) (sz : Nat) (y : (Int32) × (Int32)) (hf : m_X7_instruction S_s S_thrown x1 x2 = some y) : Met l yX7_instruction wsX7_instruction ({ frames := 4, cells := 0, slots := 0, locals := 87 } : Room) (va_Pc [.ref (aS 0), .int x1, .int x2] (pzPre D (zT cI cZ cII cJ cM) (wX7 cI cZ cII aS S_thrown S_s S_aside S_saved S_savedMany S_text S_length S_fetched S_predicted S_fetchedMany S_fetchedWay S_spot S_isWrong S_executedByText ++ []) sz)) (va_Qi (fun v (_ : Unit) => v = y.1) (fun _ t => pzB D (zT cI cZ cII cJ cM) (va_A (wX7 cI cZ cII aS S_thrown S_s S_aside S_saved S_savedMany S_text S_length S_fetched S_predicted S_fetchedMany S_fetchedWay S_spot S_isWrong S_executedByText ++ []) sz) (wX7 cI cZ cII aS y.2 S_s S_aside S_saved S_savedMany S_text S_length S_fetched S_predicted S_fetchedMany S_fetchedWay S_spot S_isWrong S_executedByText ++ []) t) (va_A (wX7 cI cZ cII aS S_thrown S_s S_aside S_saved S_savedMany S_text S_length S_fetched S_predicted S_fetchedMany S_fetchedWay S_spot S_isWrong S_executedByText ++ []) sz)) 0 0 (va_A (wX7 cI cZ cII aS S_thrown S_s S_aside S_saved S_savedMany S_text S_length S_fetched S_predicted S_fetchedMany S_fetchedWay S_spot S_isWrong S_executedByText ++ []) sz) := by
  refine z_meti (cc := cX7_instruction) (maxL := 3) (by decide) rfl (Nat.le_of_ble_eq_true rfl) ?_
  intro p e s m args below meth c A ls Q H locs F hP hD hS hl hret
  obtain ⟨hx, hb, hml, hown, hts, hN, hK, hA⟩ := F
  have hown : s.vm.findClass RX7 = some m.cls := hown
  have hl : lv_has ls 3 [(0, .ref (aS 0)), (1, .int x1), (2, .int x2)] := hl
  have J43 : ∀ (S_thrown : Int32) (k0 : Int32) (H : Heap) (locs : List Loc) (ls : Array Slot), m_X7_instruction_43 S_s x1 x2 S_thrown k0 = some y → va_P D vwCl (wX7 cI cZ cII aS S_thrown S_s S_aside S_saved S_savedMany S_text S_length S_fetched S_predicted S_fetchedMany S_fetchedWay S_spot S_isWrong S_executedByText ++ []) H → va_D A (wX7 cI cZ cII aS S_thrown S_s S_aside S_saved S_savedMany S_text S_length S_fetched S_predicted S_fetchedMany S_fetchedWay S_spot S_isWrong S_executedByText ++ []) → va_S A s.heap H locs → lv_has ls 3 [] → W p l e ({ frames := 4, cells := 0, slots := 0, locals := 87 } : Room) s m args below meth c H locs 0 0 Q (F0 m 43 ls [.int k0]) := by
    intro S_thrown k0 H locs ls hf hP hD hS hl
    unfold m_X7_instruction_43 at hf
    obtain rfl := Option.some.inj hf
    exact hret _ _ _ _ _ dX7_instruction_43 rfl hP hD hS
  have J27 : ∀ (S_thrown : Int32) (k1 : Int32) (H : Heap) (locs : List Loc) (ls : Array Slot), m_X7_instruction_27 S_s x1 x2 S_thrown k1 = some y → va_P D vwCl (wX7 cI cZ cII aS S_thrown S_s S_aside S_saved S_savedMany S_text S_length S_fetched S_predicted S_fetchedMany S_fetchedWay S_spot S_isWrong S_executedByText ++ []) H → va_D A (wX7 cI cZ cII aS S_thrown S_s S_aside S_saved S_savedMany S_text S_length S_fetched S_predicted S_fetchedMany S_fetchedWay S_spot S_isWrong S_executedByText ++ []) → va_S A s.heap H locs → lv_has ls 3 [(0, .ref (aS 0)), (1, .int x1), (2, .int x2)] → W p l e ({ frames := 4, cells := 0, slots := 0, locals := 87 } : Room) s m args below meth c H locs 0 0 Q (F0 m 27 ls [.int k1, .ref (aS 0)]) := by
    intro S_thrown k1 H locs ls hf hP hD hS hl
    unfold m_X7_instruction_27 at hf
    obtain ⟨y27, h27, hf⟩ := bn_t hf
    refine z_ai (x := []) (b := wX7 cI cZ cII aS S_thrown S_s S_aside S_saved S_savedMany S_text S_length S_fetched S_predicted S_fetchedMany S_fetchedWay S_spot S_isWrong S_executedByText ++ []) (y := ([] : va_W)) (b1 := wX7 cI cZ cII aS y27.2 S_s S_aside S_saved S_savedMany S_text S_length S_fetched S_predicted S_fetchedMany S_fetchedWay S_spot S_isWrong S_executedByText ++ []) (wsn := wX7 cI cZ cII aS y27.2 S_s S_aside S_saved S_savedMany S_text S_length S_fetched S_predicted S_fetchedMany S_fetchedWay S_spot S_isWrong S_executedByText ++ []) (va_runV (As := [.int k1]) (rest := []) ⟨hx, hb, hml, hown, hts⟩ (c_X7_holds l D cI cZ cII cJ cM aS S_thrown S_s S_aside S_saved S_savedMany S_text S_length S_fetched S_predicted S_fetchedMany S_fetchedWay S_spot S_isWrong S_executedByText k1 H.size y27 h27) (cwV 1 hts gX7_instruction_X7_holds rfl rfl rfl (by decide +kernel) ⟨Nat.le_of_ble_eq_true rfl, Nat.le_of_ble_eq_true rfl⟩) (pz_V (x := []) (b := wX7 cI cZ cII aS S_thrown S_s S_aside S_saved S_savedMany S_text S_length S_fetched S_predicted S_fetchedMany S_fetchedWay S_spot S_isWrong S_executedByText ++ []) (y := ([] : va_W)) (C := RX7) (T := TX7) (N := 14) (ci := 7) (As := [.int k1]) (bi := 0) hK hN hP hD (by simp only [List.append_assoc, List.nil_append, List.append_nil]) rfl rfl) rfl rfl hl.1 rfl (lv_room (Nat.le_of_ble_eq_true rfl)) dX7_instruction_27 ⟨Nat.le_of_ble_eq_true rfl, Nat.le_of_ble_eq_true rfl⟩) hP hD hS hA (by simp only [List.append_assoc, List.nil_append, List.append_nil]) (by simp only [List.append_assoc, List.nil_append, List.append_nil]) (fun H locs hP hD hS => ?_)
    refine lv_if_eq (tgt := 42) hx hb dX7_instruction_30 (by decide) (fun c30 => ?_) (fun c30 => ?_)
    · have hf := if_t c30 hf
      refine lv_iconst (v := 0) hx hb dX7_instruction_42 (by decide) ?_
      exact J43 y27.2 (0 : Int32) _ _ _ hf hP hD hS (lv_sub hl [] rfl)
    · have hf := if_f c30 hf
      refine lv_aload_n hx hb dX7_instruction_33 rfl (lv_at hl 0 rfl) ?_
      refine lv_iload_n hx hb dX7_instruction_34 rfl (lv_at hl 1 rfl) ?_
      refine lv_iload_n hx hb dX7_instruction_35 rfl (lv_at hl 2 rfl) ?_
      obtain ⟨y36, h36, hf⟩ := bn_t hf
      refine z_ai (x := []) (b := wX7 cI cZ cII aS y27.2 S_s S_aside S_saved S_savedMany S_text S_length S_fetched S_predicted S_fetchedMany S_fetchedWay S_spot S_isWrong S_executedByText ++ []) (y := ([] : va_W)) (b1 := wX7 cI cZ cII aS y27.2 S_s S_aside S_saved S_savedMany S_text S_length S_fetched S_predicted S_fetchedMany S_fetchedWay S_spot S_isWrong S_executedByText ++ []) (wsn := wX7 cI cZ cII aS y27.2 S_s S_aside S_saved S_savedMany S_text S_length S_fetched S_predicted S_fetchedMany S_fetchedWay S_spot S_isWrong S_executedByText ++ []) (va_runV (As := [.int x1, .int x2]) (rest := []) ⟨hx, hb, hml, hown, hts⟩ (c_X7_partOf l D cI cZ cII cJ cM aS y27.2 S_s S_aside S_saved S_savedMany S_text S_length S_fetched S_predicted S_fetchedMany S_fetchedWay S_spot S_isWrong S_executedByText x1 x2 H.size y36 h36) (cwV 2 hts gX7_instruction_X7_partOf rfl rfl rfl (by decide +kernel) ⟨Nat.le_of_ble_eq_true rfl, Nat.le_of_ble_eq_true rfl⟩) (pz_V (x := []) (b := wX7 cI cZ cII aS y27.2 S_s S_aside S_saved S_savedMany S_text S_length S_fetched S_predicted S_fetchedMany S_fetchedWay S_spot S_isWrong S_executedByText ++ []) (y := ([] : va_W)) (C := RX7) (T := TX7) (N := 14) (ci := 7) (As := [.int x1, .int x2]) (bi := 0) hK hN hP hD (by simp only [List.append_assoc, List.nil_append, List.append_nil]) rfl rfl) rfl rfl hl.1 rfl (lv_room (Nat.le_of_ble_eq_true rfl)) dX7_instruction_36 ⟨Nat.le_of_ble_eq_true rfl, Nat.le_of_ble_eq_true rfl⟩) hP hD hS hA (by simp only [List.append_assoc, List.nil_append, List.append_nil]) (by simp only [List.append_assoc, List.nil_append, List.append_nil]) (fun H locs hP hD hS => ?_)
      refine lv_goto (tgt := 43) hx hb dX7_instruction_39 (by decide) ?_
      exact J43 y27.2 y36 _ _ _ hf hP hD hS (lv_sub hl [] rfl)
  unfold m_X7_instruction at hf
  refine lv_aload_n hx hb dX7_instruction_0 rfl (lv_at hl 0 rfl) ?_
  refine lv_iload_n hx hb dX7_instruction_1 rfl (lv_at hl 1 rfl) ?_
  obtain ⟨y2, h2, hf⟩ := bn_t hf
  refine z_ai (x := []) (b := ([] : va_W)) (y := wX7 cI cZ cII aS S_thrown S_s S_aside S_saved S_savedMany S_text S_length S_fetched S_predicted S_fetchedMany S_fetchedWay S_spot S_isWrong S_executedByText ++ []) (b1 := ([] : va_W)) (wsn := wX7 cI cZ cII aS S_thrown S_s S_aside S_saved S_savedMany S_text S_length S_fetched S_predicted S_fetchedMany S_fetchedWay S_spot S_isWrong S_executedByText ++ []) (va_runS (As := [.int x1]) (rest := [.ref (aS 0)]) ⟨hx, hb, hml, hown, hts⟩ (c_X7_isAddress l D cI cZ cII cJ cM x1 H.size y2 h2) (va_cwS 1 hts gX7_instruction_X7_isAddress rfl rfl rfl (by decide +kernel) ⟨Nat.le_of_ble_eq_true rfl, Nat.le_of_ble_eq_true rfl⟩) (pz_S (x := []) (b := ([] : va_W)) (y := wX7 cI cZ cII aS S_thrown S_s S_aside S_saved S_savedMany S_text S_length S_fetched S_predicted S_fetchedMany S_fetchedWay S_spot S_isWrong S_executedByText ++ []) hK hN hP hD (by simp only [List.append_assoc, List.nil_append, List.append_nil])) rfl rfl hl.1 rfl (lv_room (Nat.le_of_ble_eq_true rfl)) dX7_instruction_2 ⟨Nat.le_of_ble_eq_true rfl, Nat.le_of_ble_eq_true rfl⟩) hP hD hS hA (by simp only [List.append_assoc, List.nil_append, List.append_nil]) (by simp only [List.append_assoc, List.nil_append, List.append_nil]) (fun H locs hP hD hS => ?_)
  refine lv_if_ne (tgt := 12) hx hb dX7_instruction_5 (by decide) (fun c5 => ?_) (fun c5 => ?_)
  · have hf := if_f c5 hf
    refine lv_iload_n hx hb dX7_instruction_12 rfl (lv_at hl 2 rfl) ?_
    refine lv_iconst (v := 0) hx hb dX7_instruction_13 (by decide) ?_
    refine lv_bipush (v := 6) hx hb dX7_instruction_14 (by decide) ?_
    obtain ⟨y16, h16, hf⟩ := bn_t hf
    refine z_ai (x := []) (b := ([] : va_W)) (y := wX7 cI cZ cII aS S_thrown S_s S_aside S_saved S_savedMany S_text S_length S_fetched S_predicted S_fetchedMany S_fetchedWay S_spot S_isWrong S_executedByText ++ []) (b1 := ([] : va_W)) (wsn := wX7 cI cZ cII aS S_thrown S_s S_aside S_saved S_savedMany S_text S_length S_fetched S_predicted S_fetchedMany S_fetchedWay S_spot S_isWrong S_executedByText ++ []) (va_runS (As := [.int x2, .int (0 : Int32), .int (6 : Int32)]) (rest := [.ref (aS 0)]) ⟨hx, hb, hml, hown, hts⟩ (c_X7_in l D cI cZ cII cJ cM x2 (0 : Int32) (6 : Int32) H.size y16 h16) (va_cwS 3 hts gX7_instruction_X7_in rfl rfl rfl (by decide +kernel) ⟨Nat.le_of_ble_eq_true rfl, Nat.le_of_ble_eq_true rfl⟩) (pz_S (x := []) (b := ([] : va_W)) (y := wX7 cI cZ cII aS S_thrown S_s S_aside S_saved S_savedMany S_text S_length S_fetched S_predicted S_fetchedMany S_fetchedWay S_spot S_isWrong S_executedByText ++ []) hK hN hP hD (by simp only [List.append_assoc, List.nil_append, List.append_nil])) rfl rfl hl.1 rfl (lv_room (Nat.le_of_ble_eq_true rfl)) dX7_instruction_16 ⟨Nat.le_of_ble_eq_true rfl, Nat.le_of_ble_eq_true rfl⟩) hP hD hS hA (by simp only [List.append_assoc, List.nil_append, List.append_nil]) (by simp only [List.append_assoc, List.nil_append, List.append_nil]) (fun H locs hP hD hS => ?_)
    refine lv_if_eq (tgt := 26) hx hb dX7_instruction_19 (by decide) (fun c19 => ?_) (fun c19 => ?_)
    · have hf := if_t c19 hf
      refine lv_iconst (v := 2) hx hb dX7_instruction_26 (by decide) ?_
      exact J27 S_thrown (2 : Int32) _ _ _ hf hP hD hS (lv_sub hl [0, 1, 2] rfl)
    · have hf := if_f c19 hf
      refine lv_iconst (v := 0) hx hb dX7_instruction_22 (by decide) ?_
      refine lv_goto (tgt := 27) hx hb dX7_instruction_23 (by decide) ?_
      exact J27 S_thrown (0 : Int32) _ _ _ hf hP hD hS (lv_sub hl [0, 1, 2] rfl)
  · have hf := if_t c5 hf
    refine lv_iconst (v := 1) hx hb dX7_instruction_8 (by decide) ?_
    refine lv_goto (tgt := 27) hx hb dX7_instruction_9 (by decide) ?_
    exact J27 S_thrown (1 : Int32) _ _ _ hf hP hD hS (lv_sub hl [0, 1, 2] rfl)
set_option maxHeartbeats 8000000 in
set_option maxRecDepth 100000 in
theorem c_X7_programCounter (l : Launch) (D : va_G) (cI cZ cII cJ cM : ClassId) (aS : Nat → Nat) (S_thrown : Int32) (S_s : Nat → Int32) (S_aside : Nat → Int32) (S_saved : Nat → Int32) (S_savedMany : Int32) (S_text : Nat → Int32) (S_length : Int32) (S_fetched : Nat → Int32) (S_predicted : Nat → Int32) (S_fetchedMany : Int32) (S_fetchedWay : Int32) (S_spot : Int32) (S_isWrong : Int32) (S_executedByText : Int32) (sz : Nat) (y : (Int32) × (Int32)) (hf : m_X7_programCounter S_s S_thrown = some y) : Met l yX7_programCounter wsX7_programCounter ({ frames := 0, cells := 0, slots := 0, locals := 0 } : Room) (va_Pc [.ref (aS 0)] (pzPre D (zT cI cZ cII cJ cM) (wX7 cI cZ cII aS S_thrown S_s S_aside S_saved S_savedMany S_text S_length S_fetched S_predicted S_fetchedMany S_fetchedWay S_spot S_isWrong S_executedByText ++ []) sz)) (va_Qi (fun v (_ : Unit) => v = y.1) (fun _ t => pzB D (zT cI cZ cII cJ cM) (va_A (wX7 cI cZ cII aS S_thrown S_s S_aside S_saved S_savedMany S_text S_length S_fetched S_predicted S_fetchedMany S_fetchedWay S_spot S_isWrong S_executedByText ++ []) sz) (wX7 cI cZ cII aS y.2 S_s S_aside S_saved S_savedMany S_text S_length S_fetched S_predicted S_fetchedMany S_fetchedWay S_spot S_isWrong S_executedByText ++ []) t) (va_A (wX7 cI cZ cII aS S_thrown S_s S_aside S_saved S_savedMany S_text S_length S_fetched S_predicted S_fetchedMany S_fetchedWay S_spot S_isWrong S_executedByText ++ []) sz)) 0 0 (va_A (wX7 cI cZ cII aS S_thrown S_s S_aside S_saved S_savedMany S_text S_length S_fetched S_predicted S_fetchedMany S_fetchedWay S_spot S_isWrong S_executedByText ++ []) sz) := by
  refine z_meti (cc := cX7_programCounter) (maxL := 1) (by decide) rfl (Nat.le_of_ble_eq_true rfl) ?_
  intro p e s m args below meth c A ls Q H locs F hP hD hS hl hret
  obtain ⟨hx, hb, hml, hown, hts, hN, hK, hA⟩ := F
  have hown : s.vm.findClass RX7 = some m.cls := hown
  have hl : lv_has ls 1 [(0, .ref (aS 0))] := hl
  have inX7 : ∀ w ∈ u_ws RX7 TX7 14, w ∈ wsX7_programCounter := by decide +kernel
  have kX7_7 := hts (.fieldLink RX7 7 "TraceCacheModel" "s" "[I") (by decide +kernel)
  have kX7_32 := hts (.fieldLink RX7 32 "TraceCacheModel" "thrown" "I") (by decide +kernel)
  unfold m_X7_programCounter at hf
  refine lv_aload_n hx hb dX7_programCounter_0 rfl (lv_at hl 0 rfl) ?_
  refine lv_iconst (v := 0) hx hb dX7_programCounter_1 (by decide) ?_
  refine va_put (D := D) (ci := 7) (v := .int (0 : Int32)) (ty := .int) (C := RX7) (T := TX7) (N := 14) hx hb hts inX7 tyX7 tyX7_ok nmX7 hown hK hP hD hS 0 rfl rfl 0 (by decide) kX7_32 (fun _ h9 => h9) rfl (by decide +kernel) rfl rfl (Nat.le_of_ble_eq_true rfl) dX7_programCounter_2 (fun H locs hP hD hS => ?_)
  have hP : va_P D vwCl (wX7 cI cZ cII aS (0 : Int32) S_s S_aside S_saved S_savedMany S_text S_length S_fetched S_predicted S_fetchedMany S_fetchedWay S_spot S_isWrong S_executedByText ++ []) H := hP
  have hD : va_D A (wX7 cI cZ cII aS (0 : Int32) S_s S_aside S_saved S_savedMany S_text S_length S_fetched S_predicted S_fetchedMany S_fetchedWay S_spot S_isWrong S_executedByText ++ []) := hD
  refine lv_aload_n hx hb dX7_programCounter_5 rfl (lv_at hl 0 rfl) ?_
  refine va_get (D := D) (ci := 7) (v := .ref (aS 1)) (C := RX7) (T := TX7) (N := 14) hx hb hts inX7 hown hK hP 0 rfl rfl 1 (by decide) kX7_7 (fun _ h9 => h9) rfl dX7_programCounter_6 ?_
  refine lv_sipush (v := 288) hx hb dX7_programCounter_9 (by decide) ?_
  obtain ⟨g12, hf⟩ := gd_t hf
  refine va_iald hx hb hK hP 1 0 rfl rfl (inb_t g12) dX7_programCounter_12 ?_
  refine lv_topi (fun v13 ev13 => ?_)
  have hf := bd_t ev13 hf
  obtain rfl := Option.some.inj hf
  exact hret _ _ _ _ _ dX7_programCounter_13 rfl hP hD hS
set_option maxHeartbeats 8000000 in
set_option maxRecDepth 100000 in
theorem c_X7_executedBehind (l : Launch) (D : va_G) (cI cZ cII cJ cM : ClassId) (aS : Nat → Nat) (S_thrown : Int32) (S_s : Nat → Int32) (S_aside : Nat → Int32) (S_saved : Nat → Int32) (S_savedMany : Int32) (S_text : Nat → Int32) (S_length : Int32) (S_fetched : Nat → Int32) (S_predicted : Nat → Int32) (S_fetchedMany : Int32) (S_fetchedWay : Int32) (S_spot : Int32) (S_isWrong : Int32) (S_executedByText : Int32) (x1 : Int32) (sz : Nat) (y : (Int32) × (Nat → Int32) × (Nat → Int32)) (hf : m_X7_executedBehind S_s S_aside x1 = some y) : Met l yX7_executedBehind wsX7_executedBehind ({ frames := 2, cells := 0, slots := 0, locals := 44 } : Room) (va_Pc [.ref (aS 0), .int x1] (pzPre D (zT cI cZ cII cJ cM) (wX7 cI cZ cII aS S_thrown S_s S_aside S_saved S_savedMany S_text S_length S_fetched S_predicted S_fetchedMany S_fetchedWay S_spot S_isWrong S_executedByText ++ []) sz)) (va_Qi (fun v (_ : Unit) => v = y.1) (fun _ t => pzB D (zT cI cZ cII cJ cM) (va_A (wX7 cI cZ cII aS S_thrown S_s S_aside S_saved S_savedMany S_text S_length S_fetched S_predicted S_fetchedMany S_fetchedWay S_spot S_isWrong S_executedByText ++ []) sz) (wX7 cI cZ cII aS S_thrown y.2.1 y.2.2 S_saved S_savedMany S_text S_length S_fetched S_predicted S_fetchedMany S_fetchedWay S_spot S_isWrong S_executedByText ++ []) t) (va_A (wX7 cI cZ cII aS S_thrown S_s S_aside S_saved S_savedMany S_text S_length S_fetched S_predicted S_fetchedMany S_fetchedWay S_spot S_isWrong S_executedByText ++ []) sz)) 0 0 (va_A (wX7 cI cZ cII aS S_thrown S_s S_aside S_saved S_savedMany S_text S_length S_fetched S_predicted S_fetchedMany S_fetchedWay S_spot S_isWrong S_executedByText ++ []) sz) := by
  refine z_meti (cc := cX7_executedBehind) (maxL := 4) (by decide) rfl (Nat.le_of_ble_eq_true rfl) ?_
  intro p e s m args below meth c A ls Q H locs F hP hD hS hl hret
  obtain ⟨hx, hb, hml, hown, hts, hN, hK, hA⟩ := F
  have hown : s.vm.findClass RX7 = some m.cls := hown
  have hl : lv_has ls 4 [(0, .ref (aS 0)), (1, .int x1)] := hl
  have inX7 : ∀ w ∈ u_ws RX7 TX7 14, w ∈ wsX7_executedBehind := by decide +kernel
  have kX7_7 := hts (.fieldLink RX7 7 "TraceCacheModel" "s" "[I") (by decide +kernel)
  have J6 : ∀ (n6 : Nat), ∀ (S_s : Nat → Int32) (S_aside : Nat → Int32) (x2 : Int32) (H : Heap) (locs : List Loc) (ls : Array Slot), m_X7_executedBehind_6 x1 n6 S_s S_aside x2 = some y → va_P D vwCl (wX7 cI cZ cII aS S_thrown S_s S_aside S_saved S_savedMany S_text S_length S_fetched S_predicted S_fetchedMany S_fetchedWay S_spot S_isWrong S_executedByText ++ []) H → va_D A (wX7 cI cZ cII aS S_thrown S_s S_aside S_saved S_savedMany S_text S_length S_fetched S_predicted S_fetchedMany S_fetchedWay S_spot S_isWrong S_executedByText ++ []) → va_S A s.heap H locs → lv_has ls 4 [(0, .ref (aS 0)), (1, .int x1), (2, .int x2)] → W p l e ({ frames := 2, cells := 0, slots := 0, locals := 44 } : Room) s m args below meth c H locs 0 0 Q (F0 m 6 ls []) := by
    intro n6
    induction n6 with
    | zero =>
      intro S_s S_aside x2 H locs ls hf hP hD hS hl
      rw [m_X7_executedBehind_6] at hf
      cases hf
    | succ n6 ih6 =>
      have J68 : ∀ (S_s : Nat → Int32) (S_aside : Nat → Int32) (x2 : Int32) (k1 : Int32) (k2 : Int32) (k3 : Int32) (H : Heap) (locs : List Loc) (ls : Array Slot), m_X7_executedBehind_68 x1 (m_X7_executedBehind_6 x1 n6) S_s S_aside x2 k1 k2 k3 = some y → va_P D vwCl (wX7 cI cZ cII aS S_thrown S_s S_aside S_saved S_savedMany S_text S_length S_fetched S_predicted S_fetchedMany S_fetchedWay S_spot S_isWrong S_executedByText ++ []) H → va_D A (wX7 cI cZ cII aS S_thrown S_s S_aside S_saved S_savedMany S_text S_length S_fetched S_predicted S_fetchedMany S_fetchedWay S_spot S_isWrong S_executedByText ++ []) → va_S A s.heap H locs → lv_has ls 4 [(0, .ref (aS 0)), (1, .int x1), (2, .int x2)] → W p l e ({ frames := 2, cells := 0, slots := 0, locals := 44 } : Room) s m args below meth c H locs 0 0 Q (F0 m 68 ls [.int k3, .int k2, .int k1, .ref (aS 1)]) := by
        intro S_s S_aside x2 k1 k2 k3 H locs ls hf hP hD hS hl
        unfold m_X7_executedBehind_68 at hf
        refine lv_iadd hx hb dX7_executedBehind_68 ?_
        obtain ⟨g69, hf⟩ := gd_t hf
        refine va_iast hx hb hK hP hD hS 1 0 rfl rfl (inb_t g69) dX7_executedBehind_69 (fun H locs hP hD hS => ?_)
        obtain ⟨S_s_69, eS_s_69⟩ : ∃ z : Nat → Int32, z = upd S_s (Int32.toNatClampNeg k1) (k2 + k3) := ⟨_, rfl⟩
        have hf := bd_t eS_s_69 hf
        have hP : va_P D vwCl (wX7 cI cZ cII aS S_thrown S_s_69 S_aside S_saved S_savedMany S_text S_length S_fetched S_predicted S_fetchedMany S_fetchedWay S_spot S_isWrong S_executedByText ++ []) H := by rw [eS_s_69]; exact hP
        have hD : va_D A (wX7 cI cZ cII aS S_thrown S_s_69 S_aside S_saved S_savedMany S_text S_length S_fetched S_predicted S_fetchedMany S_fetchedWay S_spot S_isWrong S_executedByText ++ []) := by rw [eS_s_69]; exact hD
        obtain ⟨v70, ev70⟩ : ∃ z : Int32, z = x2 + (1 : Int32) := ⟨_, rfl⟩
        have hf := bd_t ev70 hf
        refine lv_iinc (v := v70) (lv' := [(2, .int v70), (0, .ref (aS 0)), (1, .int x1)]) hx hb dX7_executedBehind_70 hl (k := 2) rfl (by rw [ev70]; rfl) (by decide) rfl (fun ls hl => ?_)
        refine lv_goto (tgt := 6) hx hb dX7_executedBehind_73 (by decide) ?_
        exact ih6 S_s_69 S_aside v70 _ _ _ hf hP hD hS (lv_sub hl [1, 2, 0] rfl)
      intro S_s S_aside x2 H locs ls hf hP hD hS hl
      rw [m_X7_executedBehind_6] at hf
      refine lv_iload_n hx hb dX7_executedBehind_6 rfl (lv_at hl 2 rfl) ?_
      refine lv_iload_n hx hb dX7_executedBehind_7 rfl (lv_at hl 1 rfl) ?_
      refine lv_icmp_ge (tgt := 76) hx hb dX7_executedBehind_8 (by decide) (fun c8 => ?_) (fun c8 => ?_)
      · have hf := if_t c8 hf
        refine lv_aload_n hx hb dX7_executedBehind_76 rfl (lv_at hl 0 rfl) ?_
        refine va_get (D := D) (ci := 7) (v := .ref (aS 1)) (C := RX7) (T := TX7) (N := 14) hx hb hts inX7 hown hK hP 0 rfl rfl 1 (by decide) kX7_7 (fun _ h9 => h9) rfl dX7_executedBehind_77 ?_
        refine lv_sipush (v := 288) hx hb dX7_executedBehind_80 (by decide) ?_
        obtain ⟨g83, hf⟩ := gd_t hf
        refine va_iald hx hb hK hP 1 0 rfl rfl (inb_t g83) dX7_executedBehind_83 ?_
        refine lv_topi (fun v84 ev84 => ?_)
        have hf := bd_t ev84 hf
        refine lv_istore_n (lv' := [(2, .int v84), (0, .ref (aS 0)), (1, .int x1)]) hx hb dX7_executedBehind_84 rfl hl (by decide) rfl (fun ls hl => ?_)
        refine lv_aload_n hx hb dX7_executedBehind_85 rfl (lv_at hl 1 rfl) ?_
        obtain ⟨y86, h86, hf⟩ := bn_t hf
        refine z_av (x := []) (b := wX7 cI cZ cII aS S_thrown S_s S_aside S_saved S_savedMany S_text S_length S_fetched S_predicted S_fetchedMany S_fetchedWay S_spot S_isWrong S_executedByText ++ []) (y := ([] : va_W)) (b1 := wX7 cI cZ cII aS S_thrown y86 S_aside S_saved S_savedMany S_text S_length S_fetched S_predicted S_fetchedMany S_fetchedWay S_spot S_isWrong S_executedByText ++ []) (wsn := wX7 cI cZ cII aS S_thrown y86 S_aside S_saved S_savedMany S_text S_length S_fetched S_predicted S_fetchedMany S_fetchedWay S_spot S_isWrong S_executedByText ++ []) (va_runV (As := []) (rest := []) ⟨hx, hb, hml, hown, hts⟩ (c_X7_putBack l D cI cZ cII cJ cM aS S_thrown S_s S_aside S_saved S_savedMany S_text S_length S_fetched S_predicted S_fetchedMany S_fetchedWay S_spot S_isWrong S_executedByText H.size y86 h86) (cwV 0 hts gX7_executedBehind_X7_putBack rfl rfl rfl (by decide +kernel) ⟨Nat.le_of_ble_eq_true rfl, Nat.le_of_ble_eq_true rfl⟩) (pz_V (x := []) (b := wX7 cI cZ cII aS S_thrown S_s S_aside S_saved S_savedMany S_text S_length S_fetched S_predicted S_fetchedMany S_fetchedWay S_spot S_isWrong S_executedByText ++ []) (y := ([] : va_W)) (C := RX7) (T := TX7) (N := 14) (ci := 7) (As := []) (bi := 0) hK hN hP hD (by simp only [List.append_assoc, List.nil_append, List.append_nil]) rfl rfl) rfl rfl hl.1 rfl (lv_room (Nat.le_of_ble_eq_true rfl)) dX7_executedBehind_86 ⟨Nat.le_of_ble_eq_true rfl, Nat.le_of_ble_eq_true rfl⟩) hP hD hS hA (by simp only [List.append_assoc, List.nil_append, List.append_nil]) (by simp only [List.append_assoc, List.nil_append, List.append_nil]) (fun H locs hP hD hS => ?_)
        refine lv_iload_n hx hb dX7_executedBehind_89 rfl (lv_at hl 0 rfl) ?_
        obtain rfl := Option.some.inj hf
        exact hret _ _ _ _ _ dX7_executedBehind_90 rfl hP hD hS
      · have hf := if_f c8 hf
        refine lv_aload_n hx hb dX7_executedBehind_11 rfl (lv_at hl 0 rfl) ?_
        refine va_get (D := D) (ci := 7) (v := .ref (aS 1)) (C := RX7) (T := TX7) (N := 14) hx hb hts inX7 hown hK hP 0 rfl rfl 1 (by decide) kX7_7 (fun _ h9 => h9) rfl dX7_executedBehind_12 ?_
        refine lv_sipush (v := 288) hx hb dX7_executedBehind_15 (by decide) ?_
        obtain ⟨g18, hf⟩ := gd_t hf
        refine va_iald hx hb hK hP 1 0 rfl rfl (inb_t g18) dX7_executedBehind_18 ?_
        refine lv_topi (fun v19 ev19 => ?_)
        have hf := bd_t ev19 hf
        refine lv_istore_n (lv' := [(3, .int v19), (0, .ref (aS 0)), (1, .int x1), (2, .int x2)]) hx hb dX7_executedBehind_19 rfl hl (by decide) rfl (fun ls hl => ?_)
        refine lv_aload_n hx hb dX7_executedBehind_20 rfl (lv_at hl 1 rfl) ?_
        refine va_get (D := D) (ci := 7) (v := .ref (aS 1)) (C := RX7) (T := TX7) (N := 14) hx hb hts inX7 hown hK hP 0 rfl rfl 1 (by decide) kX7_7 (fun _ h9 => h9) rfl dX7_executedBehind_21 ?_
        refine lv_sipush (v := 288) hx hb dX7_executedBehind_24 (by decide) ?_
        refine lv_aload_n hx hb dX7_executedBehind_27 rfl (lv_at hl 1 rfl) ?_
        refine lv_iload_n hx hb dX7_executedBehind_28 rfl (lv_at hl 0 rfl) ?_
        refine lv_aload_n hx hb dX7_executedBehind_29 rfl (lv_at hl 1 rfl) ?_
        refine lv_iload_n hx hb dX7_executedBehind_30 rfl (lv_at hl 0 rfl) ?_
        obtain ⟨y31, h31, hf⟩ := bn_t hf
        refine z_ai (x := []) (b := wX7 cI cZ cII aS S_thrown S_s S_aside S_saved S_savedMany S_text S_length S_fetched S_predicted S_fetchedMany S_fetchedWay S_spot S_isWrong S_executedByText ++ []) (y := ([] : va_W)) (b1 := wX7 cI cZ cII aS S_thrown S_s S_aside S_saved S_savedMany S_text S_length S_fetched S_predicted S_fetchedMany S_fetchedWay S_spot S_isWrong S_executedByText ++ []) (wsn := wX7 cI cZ cII aS S_thrown S_s S_aside S_saved S_savedMany S_text S_length S_fetched S_predicted S_fetchedMany S_fetchedWay S_spot S_isWrong S_executedByText ++ []) (va_runV (As := [.int v19]) (rest := [.int v19, .ref (aS 0), .int (288 : Int32), .ref (aS 1)]) ⟨hx, hb, hml, hown, hts⟩ (c_X7_isTakenNow l D cI cZ cII cJ cM aS S_thrown S_s S_aside S_saved S_savedMany S_text S_length S_fetched S_predicted S_fetchedMany S_fetchedWay S_spot S_isWrong S_executedByText v19 H.size y31 h31) (cwV 1 hts gX7_executedBehind_X7_isTakenNow rfl rfl rfl (by decide +kernel) ⟨Nat.le_of_ble_eq_true rfl, Nat.le_of_ble_eq_true rfl⟩) (pz_V (x := []) (b := wX7 cI cZ cII aS S_thrown S_s S_aside S_saved S_savedMany S_text S_length S_fetched S_predicted S_fetchedMany S_fetchedWay S_spot S_isWrong S_executedByText ++ []) (y := ([] : va_W)) (C := RX7) (T := TX7) (N := 14) (ci := 7) (As := [.int v19]) (bi := 0) hK hN hP hD (by simp only [List.append_assoc, List.nil_append, List.append_nil]) rfl rfl) rfl rfl hl.1 rfl (lv_room (Nat.le_of_ble_eq_true rfl)) dX7_executedBehind_31 ⟨Nat.le_of_ble_eq_true rfl, Nat.le_of_ble_eq_true rfl⟩) hP hD hS hA (by simp only [List.append_assoc, List.nil_append, List.append_nil]) (by simp only [List.append_assoc, List.nil_append, List.append_nil]) (fun H locs hP hD hS => ?_)
        obtain ⟨y34, h34, hf⟩ := bn_t hf
        refine z_ai (x := []) (b := wX7 cI cZ cII aS S_thrown S_s S_aside S_saved S_savedMany S_text S_length S_fetched S_predicted S_fetchedMany S_fetchedWay S_spot S_isWrong S_executedByText ++ []) (y := ([] : va_W)) (b1 := wX7 cI cZ cII aS S_thrown S_s S_aside S_saved S_savedMany S_text S_length S_fetched S_predicted S_fetchedMany S_fetchedWay S_spot S_isWrong S_executedByText ++ []) (wsn := wX7 cI cZ cII aS S_thrown S_s S_aside S_saved S_savedMany S_text S_length S_fetched S_predicted S_fetchedMany S_fetchedWay S_spot S_isWrong S_executedByText ++ []) (va_runV (As := [.int v19, .int y31]) (rest := [.int (288 : Int32), .ref (aS 1)]) ⟨hx, hb, hml, hown, hts⟩ (c_X7_successor l D cI cZ cII cJ cM aS S_thrown S_s S_aside S_saved S_savedMany S_text S_length S_fetched S_predicted S_fetchedMany S_fetchedWay S_spot S_isWrong S_executedByText v19 y31 H.size y34 h34) (cwV 2 hts gX7_executedBehind_X7_successor rfl rfl rfl (by decide +kernel) ⟨Nat.le_of_ble_eq_true rfl, Nat.le_of_ble_eq_true rfl⟩) (pz_V (x := []) (b := wX7 cI cZ cII aS S_thrown S_s S_aside S_saved S_savedMany S_text S_length S_fetched S_predicted S_fetchedMany S_fetchedWay S_spot S_isWrong S_executedByText ++ []) (y := ([] : va_W)) (C := RX7) (T := TX7) (N := 14) (ci := 7) (As := [.int v19, .int y31]) (bi := 0) hK hN hP hD (by simp only [List.append_assoc, List.nil_append, List.append_nil]) rfl rfl) rfl rfl hl.1 rfl (lv_room (Nat.le_of_ble_eq_true rfl)) dX7_executedBehind_34 ⟨Nat.le_of_ble_eq_true rfl, Nat.le_of_ble_eq_true rfl⟩) hP hD hS hA (by simp only [List.append_assoc, List.nil_append, List.append_nil]) (by simp only [List.append_assoc, List.nil_append, List.append_nil]) (fun H locs hP hD hS => ?_)
        obtain ⟨g37, hf⟩ := gd_t hf
        refine va_iast hx hb hK hP hD hS 1 0 rfl rfl (inb_t g37) dX7_executedBehind_37 (fun H locs hP hD hS => ?_)
        obtain ⟨S_s_37, eS_s_37⟩ : ∃ z : Nat → Int32, z = upd S_s (Int32.toNatClampNeg (288 : Int32)) y34 := ⟨_, rfl⟩
        have hf := bd_t eS_s_37 hf
        have hP : va_P D vwCl (wX7 cI cZ cII aS S_thrown S_s_37 S_aside S_saved S_savedMany S_text S_length S_fetched S_predicted S_fetchedMany S_fetchedWay S_spot S_isWrong S_executedByText ++ []) H := by rw [eS_s_37]; exact hP
        have hD : va_D A (wX7 cI cZ cII aS S_thrown S_s_37 S_aside S_saved S_savedMany S_text S_length S_fetched S_predicted S_fetchedMany S_fetchedWay S_spot S_isWrong S_executedByText ++ []) := by rw [eS_s_37]; exact hD
        refine lv_aload_n hx hb dX7_executedBehind_38 rfl (lv_at hl 1 rfl) ?_
        refine va_get (D := D) (ci := 7) (v := .ref (aS 1)) (C := RX7) (T := TX7) (N := 14) hx hb hts inX7 hown hK hP 0 rfl rfl 1 (by decide) kX7_7 (fun _ h9 => h9) rfl dX7_executedBehind_39 ?_
        refine lv_iload_n hx hb dX7_executedBehind_42 rfl (lv_at hl 0 rfl) ?_
        refine lv_iconst (v := 4) hx hb dX7_executedBehind_43 (by decide) ?_
        obtain ⟨y44, h44, hf⟩ := bn_t hf
        refine z_ai (x := []) (b := ([] : va_W)) (y := wX7 cI cZ cII aS S_thrown S_s_37 S_aside S_saved S_savedMany S_text S_length S_fetched S_predicted S_fetchedMany S_fetchedWay S_spot S_isWrong S_executedByText ++ []) (b1 := ([] : va_W)) (wsn := wX7 cI cZ cII aS S_thrown S_s_37 S_aside S_saved S_savedMany S_text S_length S_fetched S_predicted S_fetchedMany S_fetchedWay S_spot S_isWrong S_executedByText ++ []) (va_runS (As := [.int v19, .int (4 : Int32)]) (rest := [.ref (aS 1)]) ⟨hx, hb, hml, hown, hts⟩ (c_X7_of l D cI cZ cII cJ cM v19 (4 : Int32) H.size y44 h44) (va_cwS 2 hts gX7_executedBehind_X7_of rfl rfl rfl (by decide +kernel) ⟨Nat.le_of_ble_eq_true rfl, Nat.le_of_ble_eq_true rfl⟩) (pz_S (x := []) (b := ([] : va_W)) (y := wX7 cI cZ cII aS S_thrown S_s_37 S_aside S_saved S_savedMany S_text S_length S_fetched S_predicted S_fetchedMany S_fetchedWay S_spot S_isWrong S_executedByText ++ []) hK hN hP hD (by simp only [List.append_assoc, List.nil_append, List.append_nil])) rfl rfl hl.1 rfl (lv_room (Nat.le_of_ble_eq_true rfl)) dX7_executedBehind_44 ⟨Nat.le_of_ble_eq_true rfl, Nat.le_of_ble_eq_true rfl⟩) hP hD hS hA (by simp only [List.append_assoc, List.nil_append, List.append_nil]) (by simp only [List.append_assoc, List.nil_append, List.append_nil]) (fun H locs hP hD hS => ?_)
        refine lv_dup2_11 hx hb dX7_executedBehind_47 rfl rfl ?_
        obtain ⟨g48, hf⟩ := gd_t hf
        refine va_iald hx hb hK hP 1 0 rfl rfl (inb_t g48) dX7_executedBehind_48 ?_
        refine lv_aload_n hx hb dX7_executedBehind_49 rfl (lv_at hl 1 rfl) ?_
        refine va_get (D := D) (ci := 7) (v := .ref (aS 1)) (C := RX7) (T := TX7) (N := 14) hx hb hts inX7 hown hK hP 0 rfl rfl 1 (by decide) kX7_7 (fun _ h9 => h9) rfl dX7_executedBehind_50 ?_
        refine lv_iload_n hx hb dX7_executedBehind_53 rfl (lv_at hl 0 rfl) ?_
        refine lv_iconst (v := 0) hx hb dX7_executedBehind_54 (by decide) ?_
        obtain ⟨y55, h55, hf⟩ := bn_t hf
        refine z_ai (x := []) (b := ([] : va_W)) (y := wX7 cI cZ cII aS S_thrown S_s_37 S_aside S_saved S_savedMany S_text S_length S_fetched S_predicted S_fetchedMany S_fetchedWay S_spot S_isWrong S_executedByText ++ []) (b1 := ([] : va_W)) (wsn := wX7 cI cZ cII aS S_thrown S_s_37 S_aside S_saved S_savedMany S_text S_length S_fetched S_predicted S_fetchedMany S_fetchedWay S_spot S_isWrong S_executedByText ++ []) (va_runS (As := [.int v19, .int (0 : Int32)]) (rest := [.ref (aS 1), .int (S_s_37 (Int32.toNatClampNeg y44)), .int y44, .ref (aS 1)]) ⟨hx, hb, hml, hown, hts⟩ (c_X7_of l D cI cZ cII cJ cM v19 (0 : Int32) H.size y55 h55) (va_cwS 2 hts gX7_executedBehind_X7_of rfl rfl rfl (by decide +kernel) ⟨Nat.le_of_ble_eq_true rfl, Nat.le_of_ble_eq_true rfl⟩) (pz_S (x := []) (b := ([] : va_W)) (y := wX7 cI cZ cII aS S_thrown S_s_37 S_aside S_saved S_savedMany S_text S_length S_fetched S_predicted S_fetchedMany S_fetchedWay S_spot S_isWrong S_executedByText ++ []) hK hN hP hD (by simp only [List.append_assoc, List.nil_append, List.append_nil])) rfl rfl hl.1 rfl (lv_room (Nat.le_of_ble_eq_true rfl)) dX7_executedBehind_55 ⟨Nat.le_of_ble_eq_true rfl, Nat.le_of_ble_eq_true rfl⟩) hP hD hS hA (by simp only [List.append_assoc, List.nil_append, List.append_nil]) (by simp only [List.append_assoc, List.nil_append, List.append_nil]) (fun H locs hP hD hS => ?_)
        obtain ⟨g58, hf⟩ := gd_t hf
        refine va_iald hx hb hK hP 1 0 rfl rfl (inb_t g58) dX7_executedBehind_58 ?_
        refine lv_iconst (v := 2) hx hb dX7_executedBehind_59 (by decide) ?_
        refine lv_icmp_ne (tgt := 67) hx hb dX7_executedBehind_60 (by decide) (fun c60 => ?_) (fun c60 => ?_)
        · have hf := if_f c60 hf
          refine lv_iconst (v := 0) hx hb dX7_executedBehind_67 (by decide) ?_
          exact J68 S_s_37 S_aside x2 y44 (S_s_37 (Int32.toNatClampNeg y44)) (0 : Int32) _ _ _ hf hP hD hS (lv_sub hl [1, 2, 3] rfl)
        · have hf := if_t c60 hf
          refine lv_iconst (v := 1) hx hb dX7_executedBehind_63 (by decide) ?_
          refine lv_goto (tgt := 68) hx hb dX7_executedBehind_64 (by decide) ?_
          exact J68 S_s_37 S_aside x2 y44 (S_s_37 (Int32.toNatClampNeg y44)) (1 : Int32) _ _ _ hf hP hD hS (lv_sub hl [1, 2, 3] rfl)
  unfold m_X7_executedBehind at hf
  refine lv_aload_n hx hb dX7_executedBehind_0 rfl (lv_at hl 0 rfl) ?_
  obtain ⟨y1, h1, hf⟩ := bn_t hf
  refine z_av (x := []) (b := wX7 cI cZ cII aS S_thrown S_s S_aside S_saved S_savedMany S_text S_length S_fetched S_predicted S_fetchedMany S_fetchedWay S_spot S_isWrong S_executedByText ++ []) (y := ([] : va_W)) (b1 := wX7 cI cZ cII aS S_thrown S_s y1 S_saved S_savedMany S_text S_length S_fetched S_predicted S_fetchedMany S_fetchedWay S_spot S_isWrong S_executedByText ++ []) (wsn := wX7 cI cZ cII aS S_thrown S_s y1 S_saved S_savedMany S_text S_length S_fetched S_predicted S_fetchedMany S_fetchedWay S_spot S_isWrong S_executedByText ++ []) (va_runV (As := []) (rest := []) ⟨hx, hb, hml, hown, hts⟩ (c_X7_putAside l D cI cZ cII cJ cM aS S_thrown S_s S_aside S_saved S_savedMany S_text S_length S_fetched S_predicted S_fetchedMany S_fetchedWay S_spot S_isWrong S_executedByText H.size y1 h1) (cwV 0 hts gX7_executedBehind_X7_putAside rfl rfl rfl (by decide +kernel) ⟨Nat.le_of_ble_eq_true rfl, Nat.le_of_ble_eq_true rfl⟩) (pz_V (x := []) (b := wX7 cI cZ cII aS S_thrown S_s S_aside S_saved S_savedMany S_text S_length S_fetched S_predicted S_fetchedMany S_fetchedWay S_spot S_isWrong S_executedByText ++ []) (y := ([] : va_W)) (C := RX7) (T := TX7) (N := 14) (ci := 7) (As := []) (bi := 0) hK hN hP hD (by simp only [List.append_assoc, List.nil_append, List.append_nil]) rfl rfl) rfl rfl hl.1 rfl (lv_room (Nat.le_of_ble_eq_true rfl)) dX7_executedBehind_1 ⟨Nat.le_of_ble_eq_true rfl, Nat.le_of_ble_eq_true rfl⟩) hP hD hS hA (by simp only [List.append_assoc, List.nil_append, List.append_nil]) (by simp only [List.append_assoc, List.nil_append, List.append_nil]) (fun H locs hP hD hS => ?_)
  refine lv_iconst (v := 0) hx hb dX7_executedBehind_4 (by decide) ?_
  refine lv_istore_n (lv' := [(2, .int (0 : Int32)), (0, .ref (aS 0)), (1, .int x1)]) hx hb dX7_executedBehind_5 rfl hl (by decide) rfl (fun ls hl => ?_)
  exact J6 4000 S_s y1 (0 : Int32) _ _ _ hf hP hD hS (lv_sub hl [1, 2, 0] rfl)
set_option maxHeartbeats 8000000 in
set_option maxRecDepth 100000 in
theorem c_X7_willExecute (l : Launch) (D : va_G) (cI cZ cII cJ cM : ClassId) (aS : Nat → Nat) (S_thrown : Int32) (S_s : Nat → Int32) (S_aside : Nat → Int32) (S_saved : Nat → Int32) (S_savedMany : Int32) (S_text : Nat → Int32) (S_length : Int32) (S_fetched : Nat → Int32) (S_predicted : Nat → Int32) (S_fetchedMany : Int32) (S_fetchedWay : Int32) (S_spot : Int32) (S_isWrong : Int32) (S_executedByText : Int32) (x1 : Int32) (sz : Nat) (y : (Int32) × (Int32) × (Nat → Int32) × (Nat → Int32)) (hf : m_X7_willExecute S_thrown S_s S_aside x1 = some y) : Met l yX7_willExecute wsX7_willExecute ({ frames := 3, cells := 0, slots := 0, locals := 67 } : Room) (va_Pc [.ref (aS 0), .int x1] (pzPre D (zT cI cZ cII cJ cM) (wX7 cI cZ cII aS S_thrown S_s S_aside S_saved S_savedMany S_text S_length S_fetched S_predicted S_fetchedMany S_fetchedWay S_spot S_isWrong S_executedByText ++ []) sz)) (va_Qi (fun v (_ : Unit) => v = y.1) (fun _ t => pzB D (zT cI cZ cII cJ cM) (va_A (wX7 cI cZ cII aS S_thrown S_s S_aside S_saved S_savedMany S_text S_length S_fetched S_predicted S_fetchedMany S_fetchedWay S_spot S_isWrong S_executedByText ++ []) sz) (wX7 cI cZ cII aS y.2.1 y.2.2.1 y.2.2.2 S_saved S_savedMany S_text S_length S_fetched S_predicted S_fetchedMany S_fetchedWay S_spot S_isWrong S_executedByText ++ []) t) (va_A (wX7 cI cZ cII aS S_thrown S_s S_aside S_saved S_savedMany S_text S_length S_fetched S_predicted S_fetchedMany S_fetchedWay S_spot S_isWrong S_executedByText ++ []) sz)) 0 0 (va_A (wX7 cI cZ cII aS S_thrown S_s S_aside S_saved S_savedMany S_text S_length S_fetched S_predicted S_fetchedMany S_fetchedWay S_spot S_isWrong S_executedByText ++ []) sz) := by
  refine z_meti (cc := cX7_willExecute) (maxL := 2) (by decide) rfl (Nat.le_of_ble_eq_true rfl) ?_
  intro p e s m args below meth c A ls Q H locs F hP hD hS hl hret
  obtain ⟨hx, hb, hml, hown, hts, hN, hK, hA⟩ := F
  have hown : s.vm.findClass RX7 = some m.cls := hown
  have hl : lv_has ls 2 [(0, .ref (aS 0)), (1, .int x1)] := hl
  have J31 : ∀ (S_thrown : Int32) (S_s : Nat → Int32) (S_aside : Nat → Int32) (k0 : Int32) (H : Heap) (locs : List Loc) (ls : Array Slot), m_X7_willExecute_31 x1 S_thrown S_s S_aside k0 = some y → va_P D vwCl (wX7 cI cZ cII aS S_thrown S_s S_aside S_saved S_savedMany S_text S_length S_fetched S_predicted S_fetchedMany S_fetchedWay S_spot S_isWrong S_executedByText ++ []) H → va_D A (wX7 cI cZ cII aS S_thrown S_s S_aside S_saved S_savedMany S_text S_length S_fetched S_predicted S_fetchedMany S_fetchedWay S_spot S_isWrong S_executedByText ++ []) → va_S A s.heap H locs → lv_has ls 2 [] → W p l e ({ frames := 3, cells := 0, slots := 0, locals := 67 } : Room) s m args below meth c H locs 0 0 Q (F0 m 31 ls [.int k0]) := by
    intro S_thrown S_s S_aside k0 H locs ls hf hP hD hS hl
    unfold m_X7_willExecute_31 at hf
    obtain rfl := Option.some.inj hf
    exact hret _ _ _ _ _ dX7_willExecute_31 rfl hP hD hS
  have J16 : ∀ (S_thrown : Int32) (S_s : Nat → Int32) (S_aside : Nat → Int32) (k1 : Int32) (H : Heap) (locs : List Loc) (ls : Array Slot), m_X7_willExecute_16 x1 S_thrown S_s S_aside k1 = some y → va_P D vwCl (wX7 cI cZ cII aS S_thrown S_s S_aside S_saved S_savedMany S_text S_length S_fetched S_predicted S_fetchedMany S_fetchedWay S_spot S_isWrong S_executedByText ++ []) H → va_D A (wX7 cI cZ cII aS S_thrown S_s S_aside S_saved S_savedMany S_text S_length S_fetched S_predicted S_fetchedMany S_fetchedWay S_spot S_isWrong S_executedByText ++ []) → va_S A s.heap H locs → lv_has ls 2 [(0, .ref (aS 0)), (1, .int x1)] → W p l e ({ frames := 3, cells := 0, slots := 0, locals := 67 } : Room) s m args below meth c H locs 0 0 Q (F0 m 16 ls [.int k1, .ref (aS 0)]) := by
    intro S_thrown S_s S_aside k1 H locs ls hf hP hD hS hl
    unfold m_X7_willExecute_16 at hf
    obtain ⟨y16, h16, hf⟩ := bn_t hf
    refine z_ai (x := []) (b := wX7 cI cZ cII aS S_thrown S_s S_aside S_saved S_savedMany S_text S_length S_fetched S_predicted S_fetchedMany S_fetchedWay S_spot S_isWrong S_executedByText ++ []) (y := ([] : va_W)) (b1 := wX7 cI cZ cII aS y16.2 S_s S_aside S_saved S_savedMany S_text S_length S_fetched S_predicted S_fetchedMany S_fetchedWay S_spot S_isWrong S_executedByText ++ []) (wsn := wX7 cI cZ cII aS y16.2 S_s S_aside S_saved S_savedMany S_text S_length S_fetched S_predicted S_fetchedMany S_fetchedWay S_spot S_isWrong S_executedByText ++ []) (va_runV (As := [.int k1]) (rest := []) ⟨hx, hb, hml, hown, hts⟩ (c_X7_holds l D cI cZ cII cJ cM aS S_thrown S_s S_aside S_saved S_savedMany S_text S_length S_fetched S_predicted S_fetchedMany S_fetchedWay S_spot S_isWrong S_executedByText k1 H.size y16 h16) (cwV 1 hts gX7_willExecute_X7_holds rfl rfl rfl (by decide +kernel) ⟨Nat.le_of_ble_eq_true rfl, Nat.le_of_ble_eq_true rfl⟩) (pz_V (x := []) (b := wX7 cI cZ cII aS S_thrown S_s S_aside S_saved S_savedMany S_text S_length S_fetched S_predicted S_fetchedMany S_fetchedWay S_spot S_isWrong S_executedByText ++ []) (y := ([] : va_W)) (C := RX7) (T := TX7) (N := 14) (ci := 7) (As := [.int k1]) (bi := 0) hK hN hP hD (by simp only [List.append_assoc, List.nil_append, List.append_nil]) rfl rfl) rfl rfl hl.1 rfl (lv_room (Nat.le_of_ble_eq_true rfl)) dX7_willExecute_16 ⟨Nat.le_of_ble_eq_true rfl, Nat.le_of_ble_eq_true rfl⟩) hP hD hS hA (by simp only [List.append_assoc, List.nil_append, List.append_nil]) (by simp only [List.append_assoc, List.nil_append, List.append_nil]) (fun H locs hP hD hS => ?_)
    refine lv_if_eq (tgt := 30) hx hb dX7_willExecute_19 (by decide) (fun c19 => ?_) (fun c19 => ?_)
    · have hf := if_t c19 hf
      refine lv_iconst (v := 0) hx hb dX7_willExecute_30 (by decide) ?_
      exact J31 y16.2 S_s S_aside (0 : Int32) _ _ _ hf hP hD hS (lv_sub hl [] rfl)
    · have hf := if_f c19 hf
      refine lv_aload_n hx hb dX7_willExecute_22 rfl (lv_at hl 0 rfl) ?_
      refine lv_iload_n hx hb dX7_willExecute_23 rfl (lv_at hl 1 rfl) ?_
      obtain ⟨y24, h24, hf⟩ := bn_t hf
      refine z_ai (x := []) (b := wX7 cI cZ cII aS y16.2 S_s S_aside S_saved S_savedMany S_text S_length S_fetched S_predicted S_fetchedMany S_fetchedWay S_spot S_isWrong S_executedByText ++ []) (y := ([] : va_W)) (b1 := wX7 cI cZ cII aS y16.2 y24.2.1 y24.2.2 S_saved S_savedMany S_text S_length S_fetched S_predicted S_fetchedMany S_fetchedWay S_spot S_isWrong S_executedByText ++ []) (wsn := wX7 cI cZ cII aS y16.2 y24.2.1 y24.2.2 S_saved S_savedMany S_text S_length S_fetched S_predicted S_fetchedMany S_fetchedWay S_spot S_isWrong S_executedByText ++ []) (va_runV (As := [.int x1]) (rest := []) ⟨hx, hb, hml, hown, hts⟩ (c_X7_executedBehind l D cI cZ cII cJ cM aS y16.2 S_s S_aside S_saved S_savedMany S_text S_length S_fetched S_predicted S_fetchedMany S_fetchedWay S_spot S_isWrong S_executedByText x1 H.size y24 h24) (cwV 1 hts gX7_willExecute_X7_executedBehind rfl rfl rfl (by decide +kernel) ⟨Nat.le_of_ble_eq_true rfl, Nat.le_of_ble_eq_true rfl⟩) (pz_V (x := []) (b := wX7 cI cZ cII aS y16.2 S_s S_aside S_saved S_savedMany S_text S_length S_fetched S_predicted S_fetchedMany S_fetchedWay S_spot S_isWrong S_executedByText ++ []) (y := ([] : va_W)) (C := RX7) (T := TX7) (N := 14) (ci := 7) (As := [.int x1]) (bi := 0) hK hN hP hD (by simp only [List.append_assoc, List.nil_append, List.append_nil]) rfl rfl) rfl rfl hl.1 rfl (lv_room (Nat.le_of_ble_eq_true rfl)) dX7_willExecute_24 ⟨Nat.le_of_ble_eq_true rfl, Nat.le_of_ble_eq_true rfl⟩) hP hD hS hA (by simp only [List.append_assoc, List.nil_append, List.append_nil]) (by simp only [List.append_assoc, List.nil_append, List.append_nil]) (fun H locs hP hD hS => ?_)
      refine lv_goto (tgt := 31) hx hb dX7_willExecute_27 (by decide) ?_
      exact J31 y16.2 y24.2.1 y24.2.2 y24.1 _ _ _ hf hP hD hS (lv_sub hl [] rfl)
  unfold m_X7_willExecute at hf
  refine lv_aload_n hx hb dX7_willExecute_0 rfl (lv_at hl 0 rfl) ?_
  refine lv_iload_n hx hb dX7_willExecute_1 rfl (lv_at hl 1 rfl) ?_
  refine lv_iconst (v := 0) hx hb dX7_willExecute_2 (by decide) ?_
  refine lv_bipush (v := 99) hx hb dX7_willExecute_3 (by decide) ?_
  obtain ⟨y5, h5, hf⟩ := bn_t hf
  refine z_ai (x := []) (b := ([] : va_W)) (y := wX7 cI cZ cII aS S_thrown S_s S_aside S_saved S_savedMany S_text S_length S_fetched S_predicted S_fetchedMany S_fetchedWay S_spot S_isWrong S_executedByText ++ []) (b1 := ([] : va_W)) (wsn := wX7 cI cZ cII aS S_thrown S_s S_aside S_saved S_savedMany S_text S_length S_fetched S_predicted S_fetchedMany S_fetchedWay S_spot S_isWrong S_executedByText ++ []) (va_runS (As := [.int x1, .int (0 : Int32), .int (99 : Int32)]) (rest := [.ref (aS 0)]) ⟨hx, hb, hml, hown, hts⟩ (c_X7_in l D cI cZ cII cJ cM x1 (0 : Int32) (99 : Int32) H.size y5 h5) (va_cwS 3 hts gX7_willExecute_X7_in rfl rfl rfl (by decide +kernel) ⟨Nat.le_of_ble_eq_true rfl, Nat.le_of_ble_eq_true rfl⟩) (pz_S (x := []) (b := ([] : va_W)) (y := wX7 cI cZ cII aS S_thrown S_s S_aside S_saved S_savedMany S_text S_length S_fetched S_predicted S_fetchedMany S_fetchedWay S_spot S_isWrong S_executedByText ++ []) hK hN hP hD (by simp only [List.append_assoc, List.nil_append, List.append_nil])) rfl rfl hl.1 rfl (lv_room (Nat.le_of_ble_eq_true rfl)) dX7_willExecute_5 ⟨Nat.le_of_ble_eq_true rfl, Nat.le_of_ble_eq_true rfl⟩) hP hD hS hA (by simp only [List.append_assoc, List.nil_append, List.append_nil]) (by simp only [List.append_assoc, List.nil_append, List.append_nil]) (fun H locs hP hD hS => ?_)
  refine lv_if_eq (tgt := 15) hx hb dX7_willExecute_8 (by decide) (fun c8 => ?_) (fun c8 => ?_)
  · have hf := if_t c8 hf
    refine lv_iconst (v := 1) hx hb dX7_willExecute_15 (by decide) ?_
    exact J16 S_thrown S_s S_aside (1 : Int32) _ _ _ hf hP hD hS (lv_sub hl [0, 1] rfl)
  · have hf := if_f c8 hf
    refine lv_iconst (v := 0) hx hb dX7_willExecute_11 (by decide) ?_
    refine lv_goto (tgt := 16) hx hb dX7_willExecute_12 (by decide) ?_
    exact J16 S_thrown S_s S_aside (0 : Int32) _ _ _ hf hP hD hS (lv_sub hl [0, 1] rfl)
