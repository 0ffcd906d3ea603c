set_option maxHeartbeats 8000000 in
set_option maxRecDepth 100000 in
theorem c_X7_setPattern (l : Launch) (D : va_G) (cI cZ cII cJ cM : ClassId) (aS : Nat → Nat) (S_thrown : Int32) (S_s : Nat → Int32) (S_aside : Nat → Int32) (S_saved : Nat → Int32) (S_savedMany : Int32) (S_text : Nat → Int32) (S_length : Int32) (S_fetched : Nat → Int32) (S_predicted : Nat → Int32) (S_fetchedMany : Int32) (S_fetchedWay : Int32) (S_spot : Int32) (S_isWrong : Int32) (S_executedByText : Int32) (x1 : Int32) (x2 : Int32) (x3 : Int32) (sz : Nat) (y : (Int32) × (Int32) × (Nat → Int32) × (Nat → Int32) × (Int32)) (hf : m_X7_setPattern S_thrown S_s S_saved S_savedMany x1 x2 x3 = some y) : Met l yX7_setPattern wsX7_setPattern ({ frames := 2, cells := 0, slots := 0, locals := 45 } : Room) (va_Pc [.ref (aS 0), .int x1, .int x2, .int x3] (pzPre D (zT cI cZ cII cJ cM) (wX7 cI cZ cII aS S_thrown S_s S_aside S_saved S_savedMany S_text S_length S_fetched S_predicted S_fetchedMany S_fetchedWay S_spot S_isWrong S_executedByText ++ []) sz)) (va_Qi (fun v (_ : Unit) => v = y.1) (fun _ t => pzB D (zT cI cZ cII cJ cM) (va_A (wX7 cI cZ cII aS S_thrown S_s S_aside S_saved S_savedMany S_text S_length S_fetched S_predicted S_fetchedMany S_fetchedWay S_spot S_isWrong S_executedByText ++ []) sz) (wX7 cI cZ cII aS y.2.1 y.2.2.1 S_aside y.2.2.2.1 y.2.2.2.2 S_text S_length S_fetched S_predicted S_fetchedMany S_fetchedWay S_spot S_isWrong S_executedByText ++ []) t) (va_A (wX7 cI cZ cII aS S_thrown S_s S_aside S_saved S_savedMany S_text S_length S_fetched S_predicted S_fetchedMany S_fetchedWay S_spot S_isWrong S_executedByText ++ []) sz)) 0 0 (va_A (wX7 cI cZ cII aS S_thrown S_s S_aside S_saved S_savedMany S_text S_length S_fetched S_predicted S_fetchedMany S_fetchedWay S_spot S_isWrong S_executedByText ++ []) sz) := by
  refine z_meti (cc := cX7_setPattern) (maxL := 5) (by decide) rfl (Nat.le_of_ble_eq_true rfl) ?_
  intro p e s m args below meth c A ls Q H locs F hP hD hS hl hret
  obtain ⟨hx, hb, hml, hown, hts, hN, hK, hA⟩ := F
  have hown : s.vm.findClass RX7 = some m.cls := hown
  have hl : lv_has ls 5 [(0, .ref (aS 0)), (1, .int x1), (2, .int x2), (3, .int x3)] := hl
  have J52 : ∀ (S_thrown : Int32) (S_s : Nat → Int32) (S_saved : Nat → Int32) (S_savedMany : Int32) (k1 : Int32) (H : Heap) (locs : List Loc) (ls : Array Slot), m_X7_setPattern_52 x1 x2 x3 S_thrown S_s S_saved S_savedMany k1 = some y → va_P D vwCl (wX7 cI cZ cII aS S_thrown S_s S_aside S_saved S_savedMany S_text S_length S_fetched S_predicted S_fetchedMany S_fetchedWay S_spot S_isWrong S_executedByText ++ []) H → va_D A (wX7 cI cZ cII aS S_thrown S_s S_aside S_saved S_savedMany S_text S_length S_fetched S_predicted S_fetchedMany S_fetchedWay S_spot S_isWrong S_executedByText ++ []) → va_S A s.heap H locs → lv_has ls 5 [(0, .ref (aS 0)), (1, .int x1), (2, .int x2), (3, .int x3)] → W p l e ({ frames := 2, cells := 0, slots := 0, locals := 45 } : Room) s m args below meth c H locs 0 0 Q (F0 m 52 ls [.int k1, .ref (aS 0)]) := by
    intro S_thrown S_s S_saved S_savedMany k1 H locs ls hf hP hD hS hl
    unfold m_X7_setPattern_52 at hf
    obtain ⟨y52, h52, hf⟩ := bn_t hf
    refine z_ai (x := []) (b := wX7 cI cZ cII aS S_thrown S_s S_aside S_saved S_savedMany S_text S_length S_fetched S_predicted S_fetchedMany S_fetchedWay S_spot S_isWrong S_executedByText ++ []) (y := ([] : va_W)) (b1 := wX7 cI cZ cII aS y52.2 S_s S_aside S_saved S_savedMany S_text S_length S_fetched S_predicted S_fetchedMany S_fetchedWay S_spot S_isWrong S_executedByText ++ []) (wsn := wX7 cI cZ cII aS y52.2 S_s S_aside S_saved S_savedMany S_text S_length S_fetched S_predicted S_fetchedMany S_fetchedWay S_spot S_isWrong S_executedByText ++ []) (va_runV (As := [.int k1]) (rest := []) ⟨hx, hb, hml, hown, hts⟩ (c_X7_holds l D cI cZ cII cJ cM aS S_thrown S_s S_aside S_saved S_savedMany S_text S_length S_fetched S_predicted S_fetchedMany S_fetchedWay S_spot S_isWrong S_executedByText k1 H.size y52 h52) (cwV 1 hts gX7_setPattern_X7_holds rfl rfl rfl (by decide +kernel) ⟨Nat.le_of_ble_eq_true rfl, Nat.le_of_ble_eq_true rfl⟩) (pz_V (x := []) (b := wX7 cI cZ cII aS S_thrown S_s S_aside S_saved S_savedMany S_text S_length S_fetched S_predicted S_fetchedMany S_fetchedWay S_spot S_isWrong S_executedByText ++ []) (y := ([] : va_W)) (C := RX7) (T := TX7) (N := 14) (ci := 7) (As := [.int k1]) (bi := 0) hK hN hP hD (by simp only [List.append_assoc, List.nil_append, List.append_nil]) rfl rfl) rfl rfl hl.1 rfl (lv_room (Nat.le_of_ble_eq_true rfl)) dX7_setPattern_52 ⟨Nat.le_of_ble_eq_true rfl, Nat.le_of_ble_eq_true rfl⟩) hP hD hS hA (by simp only [List.append_assoc, List.nil_append, List.append_nil]) (by simp only [List.append_assoc, List.nil_append, List.append_nil]) (fun H locs hP hD hS => ?_)
    refine lv_if_ne (tgt := 60) hx hb dX7_setPattern_55 (by decide) (fun c55 => ?_) (fun c55 => ?_)
    · have hf := if_f c55 hf
      refine lv_aload_n hx hb dX7_setPattern_60 rfl (lv_at hl 0 rfl) ?_
      obtain ⟨y61, h61, hf⟩ := bn_t hf
      refine z_av (x := []) (b := wX7 cI cZ cII aS y52.2 S_s S_aside S_saved S_savedMany S_text S_length S_fetched S_predicted S_fetchedMany S_fetchedWay S_spot S_isWrong S_executedByText ++ []) (y := ([] : va_W)) (b1 := wX7 cI cZ cII aS y52.2 S_s S_aside y61.1 y61.2 S_text S_length S_fetched S_predicted S_fetchedMany S_fetchedWay S_spot S_isWrong S_executedByText ++ []) (wsn := wX7 cI cZ cII aS y52.2 S_s S_aside y61.1 y61.2 S_text S_length S_fetched S_predicted S_fetchedMany S_fetchedWay S_spot S_isWrong S_executedByText ++ []) (va_runV (As := []) (rest := []) ⟨hx, hb, hml, hown, hts⟩ (c_X7_save l D cI cZ cII cJ cM aS y52.2 S_s S_aside S_saved S_savedMany S_text S_length S_fetched S_predicted S_fetchedMany S_fetchedWay S_spot S_isWrong S_executedByText H.size y61 h61) (cwV 0 hts gX7_setPattern_X7_save rfl rfl rfl (by decide +kernel) ⟨Nat.le_of_ble_eq_true rfl, Nat.le_of_ble_eq_true rfl⟩) (pz_V (x := []) (b := wX7 cI cZ cII aS y52.2 S_s S_aside S_saved S_savedMany S_text S_length S_fetched S_predicted S_fetchedMany S_fetchedWay S_spot S_isWrong S_executedByText ++ []) (y := ([] : va_W)) (C := RX7) (T := TX7) (N := 14) (ci := 7) (As := []) (bi := 0) hK hN hP hD (by simp only [List.append_assoc, List.nil_append, List.append_nil]) rfl rfl) rfl rfl hl.1 rfl (lv_room (Nat.le_of_ble_eq_true rfl)) dX7_setPattern_61 ⟨Nat.le_of_ble_eq_true rfl, Nat.le_of_ble_eq_true rfl⟩) hP hD hS hA (by simp only [List.append_assoc, List.nil_append, List.append_nil]) (by simp only [List.append_assoc, List.nil_append, List.append_nil]) (fun H locs hP hD hS => ?_)
      refine lv_aload_n hx hb dX7_setPattern_64 rfl (lv_at hl 0 rfl) ?_
      refine lv_iload_n hx hb dX7_setPattern_65 rfl (lv_at hl 1 rfl) ?_
      refine lv_iload_n hx hb dX7_setPattern_66 rfl (lv_at hl 2 rfl) ?_
      refine lv_iload_n hx hb dX7_setPattern_67 rfl (lv_at hl 3 rfl) ?_
      obtain ⟨y68, h68, hf⟩ := bn_t hf
      refine z_ai (x := []) (b := wX7 cI cZ cII aS y52.2 S_s S_aside y61.1 y61.2 S_text S_length S_fetched S_predicted S_fetchedMany S_fetchedWay S_spot S_isWrong S_executedByText ++ []) (y := ([] : va_W)) (b1 := wX7 cI cZ cII aS y52.2 y68.2 S_aside y61.1 y61.2 S_text S_length S_fetched S_predicted S_fetchedMany S_fetchedWay S_spot S_isWrong S_executedByText ++ []) (wsn := wX7 cI cZ cII aS y52.2 y68.2 S_aside y61.1 y61.2 S_text S_length S_fetched S_predicted S_fetchedMany S_fetchedWay S_spot S_isWrong S_executedByText ++ []) (va_runV (As := [.int x1, .int x2, .int x3]) (rest := []) ⟨hx, hb, hml, hown, hts⟩ (c_X7_patterns l D cI cZ cII cJ cM aS y52.2 S_s S_aside y61.1 y61.2 S_text S_length S_fetched S_predicted S_fetchedMany S_fetchedWay S_spot S_isWrong S_executedByText x1 x2 x3 H.size y68 h68) (cwV 3 hts gX7_setPattern_X7_patterns rfl rfl rfl (by decide +kernel) ⟨Nat.le_of_ble_eq_true rfl, Nat.le_of_ble_eq_true rfl⟩) (pz_V (x := []) (b := wX7 cI cZ cII aS y52.2 S_s S_aside y61.1 y61.2 S_text S_length S_fetched S_predicted S_fetchedMany S_fetchedWay S_spot S_isWrong S_executedByText ++ []) (y := ([] : va_W)) (C := RX7) (T := TX7) (N := 14) (ci := 7) (As := [.int x1, .int x2, .int x3]) (bi := 0) hK hN hP hD (by simp only [List.append_assoc, List.nil_append, List.append_nil]) rfl rfl) rfl rfl hl.1 rfl (lv_room (Nat.le_of_ble_eq_true rfl)) dX7_setPattern_68 ⟨Nat.le_of_ble_eq_true rfl, Nat.le_of_ble_eq_true rfl⟩) hP hD hS hA (by simp only [List.append_assoc, List.nil_append, List.append_nil]) (by simp only [List.append_assoc, List.nil_append, List.append_nil]) (fun H locs hP hD hS => ?_)
      obtain rfl := Option.some.inj hf
      exact hret _ _ _ _ _ dX7_setPattern_71 rfl hP hD hS
    · have hf := if_t c55 hf
      refine lv_iconst (v := 0) hx hb dX7_setPattern_58 (by decide) ?_
      obtain rfl := Option.some.inj hf
      exact hret _ _ _ _ _ dX7_setPattern_59 rfl hP hD hS
  have J28 : ∀ (S_thrown : Int32) (S_s : Nat → Int32) (S_saved : Nat → Int32) (S_savedMany : Int32) (k0 : Int32) (H : Heap) (locs : List Loc) (ls : Array Slot), m_X7_setPattern_28 x1 x2 x3 S_thrown S_s S_saved S_savedMany k0 = some y → va_P D vwCl (wX7 cI cZ cII aS S_thrown S_s S_aside S_saved S_savedMany S_text S_length S_fetched S_predicted S_fetchedMany S_fetchedWay S_spot S_isWrong S_executedByText ++ []) H → va_D A (wX7 cI cZ cII aS S_thrown S_s S_aside S_saved S_savedMany S_text S_length S_fetched S_predicted S_fetchedMany S_fetchedWay S_spot S_isWrong S_executedByText ++ []) → va_S A s.heap H locs → lv_has ls 5 [(0, .ref (aS 0)), (1, .int x1), (2, .int x2), (3, .int x3)] → W p l e ({ frames := 2, cells := 0, slots := 0, locals := 45 } : Room) s m args below meth c H locs 0 0 Q (F0 m 28 ls [.int k0]) := by
    intro S_thrown S_s S_saved S_savedMany k0 H locs ls hf hP hD hS hl
    unfold m_X7_setPattern_28 at hf
    refine lv_istore (lv' := [(4, .int k0), (0, .ref (aS 0)), (1, .int x1), (2, .int x2), (3, .int x3)]) hx hb dX7_setPattern_28 hl (by decide) rfl (fun ls hl => ?_)
    refine lv_aload_n hx hb dX7_setPattern_30 rfl (lv_at hl 1 rfl) ?_
    refine lv_iload_n hx hb dX7_setPattern_31 rfl (lv_at hl 2 rfl) ?_
    obtain ⟨y32, h32, hf⟩ := bn_t hf
    refine z_ai (x := []) (b := ([] : va_W)) (y := wX7 cI cZ cII aS S_thrown S_s S_aside S_saved S_savedMany S_text S_length S_fetched S_predicted S_fetchedMany S_fetchedWay S_spot S_isWrong S_executedByText ++ []) (b1 := ([] : va_W)) (wsn := wX7 cI cZ cII aS S_thrown S_s S_aside S_saved S_savedMany S_text S_length S_fetched S_predicted S_fetchedMany S_fetchedWay S_spot S_isWrong S_executedByText ++ []) (va_runS (As := [.int x1]) (rest := [.ref (aS 0)]) ⟨hx, hb, hml, hown, hts⟩ (c_X7_isAddress l D cI cZ cII cJ cM x1 H.size y32 h32) (va_cwS 1 hts gX7_setPattern_X7_isAddress rfl rfl rfl (by decide +kernel) ⟨Nat.le_of_ble_eq_true rfl, Nat.le_of_ble_eq_true rfl⟩) (pz_S (x := []) (b := ([] : va_W)) (y := wX7 cI cZ cII aS S_thrown S_s S_aside S_saved S_savedMany S_text S_length S_fetched S_predicted S_fetchedMany S_fetchedWay S_spot S_isWrong S_executedByText ++ []) hK hN hP hD (by simp only [List.append_assoc, List.nil_append, List.append_nil])) rfl rfl hl.1 rfl (lv_room (Nat.le_of_ble_eq_true rfl)) dX7_setPattern_32 ⟨Nat.le_of_ble_eq_true rfl, Nat.le_of_ble_eq_true rfl⟩) hP hD hS hA (by simp only [List.append_assoc, List.nil_append, List.append_nil]) (by simp only [List.append_assoc, List.nil_append, List.append_nil]) (fun H locs hP hD hS => ?_)
    refine lv_if_ne (tgt := 42) hx hb dX7_setPattern_35 (by decide) (fun c35 => ?_) (fun c35 => ?_)
    · have hf := if_f c35 hf
      refine lv_iload hx hb dX7_setPattern_42 (lv_at hl 0 rfl) ?_
      refine lv_if_eq (tgt := 51) hx hb dX7_setPattern_44 (by decide) (fun c44 => ?_) (fun c44 => ?_)
      · have hf := if_t c44 hf
        refine lv_iconst (v := 2) hx hb dX7_setPattern_51 (by decide) ?_
        exact J52 S_thrown S_s S_saved S_savedMany (2 : Int32) _ _ _ hf hP hD hS (lv_sub hl [1, 2, 3, 4] rfl)
      · have hf := if_f c44 hf
        refine lv_iconst (v := 0) hx hb dX7_setPattern_47 (by decide) ?_
        refine lv_goto (tgt := 52) hx hb dX7_setPattern_48 (by decide) ?_
        exact J52 S_thrown S_s S_saved S_savedMany (0 : Int32) _ _ _ hf hP hD hS (lv_sub hl [1, 2, 3, 4] rfl)
    · have hf := if_t c35 hf
      refine lv_iconst (v := 1) hx hb dX7_setPattern_38 (by decide) ?_
      refine lv_goto (tgt := 52) hx hb dX7_setPattern_39 (by decide) ?_
      exact J52 S_thrown S_s S_saved S_savedMany (1 : Int32) _ _ _ hf hP hD hS (lv_sub hl [1, 2, 3, 4] rfl)
  have J27 : ∀ (S_thrown : Int32) (S_s : Nat → Int32) (S_saved : Nat → Int32) (S_savedMany : Int32) (H : Heap) (locs : List Loc) (ls : Array Slot), m_X7_setPattern_27 x1 x2 x3 S_thrown S_s S_saved S_savedMany = some y → va_P D vwCl (wX7 cI cZ cII aS S_thrown S_s S_aside S_saved S_savedMany S_text S_length S_fetched S_predicted S_fetchedMany S_fetchedWay S_spot S_isWrong S_executedByText ++ []) H → va_D A (wX7 cI cZ cII aS S_thrown S_s S_aside S_saved S_savedMany S_text S_length S_fetched S_predicted S_fetchedMany S_fetchedWay S_spot S_isWrong S_executedByText ++ []) → va_S A s.heap H locs → lv_has ls 5 [(0, .ref (aS 0)), (1, .int x1), (2, .int x2), (3, .int x3)] → W p l e ({ frames := 2, cells := 0, slots := 0, locals := 45 } : Room) s m args below meth c H locs 0 0 Q (F0 m 27 ls []) := by
    intro S_thrown S_s S_saved S_savedMany H locs ls hf hP hD hS hl
    unfold m_X7_setPattern_27 at hf
    refine lv_iconst (v := 0) hx hb dX7_setPattern_27 (by decide) ?_
    exact J28 S_thrown S_s S_saved S_savedMany (0 : Int32) _ _ _ hf hP hD hS (lv_sub hl [0, 1, 2, 3] rfl)
  unfold m_X7_setPattern at hf
  refine lv_iload_n hx hb dX7_setPattern_0 rfl (lv_at hl 3 rfl) ?_
  refine lv_iconst (v := 1) hx hb dX7_setPattern_1 (by decide) ?_
  refine lv_bipush (v := 8) hx hb dX7_setPattern_2 (by decide) ?_
  obtain ⟨y4, h4, hf⟩ := bn_t hf
  refine z_ai (x := []) (b := ([] : va_W)) (y := wX7 cI cZ cII aS S_thrown S_s S_aside S_saved S_savedMany S_text S_length S_fetched S_predicted S_fetchedMany S_fetchedWay S_spot S_isWrong S_executedByText ++ []) (b1 := ([] : va_W)) (wsn := wX7 cI cZ cII aS S_thrown S_s S_aside S_saved S_savedMany S_text S_length S_fetched S_predicted S_fetchedMany S_fetchedWay S_spot S_isWrong S_executedByText ++ []) (va_runS (As := [.int x3, .int (1 : Int32), .int (8 : Int32)]) (rest := []) ⟨hx, hb, hml, hown, hts⟩ (c_X7_in l D cI cZ cII cJ cM x3 (1 : Int32) (8 : Int32) H.size y4 h4) (va_cwS 3 hts gX7_setPattern_X7_in rfl rfl rfl (by decide +kernel) ⟨Nat.le_of_ble_eq_true rfl, Nat.le_of_ble_eq_true rfl⟩) (pz_S (x := []) (b := ([] : va_W)) (y := wX7 cI cZ cII aS S_thrown S_s S_aside S_saved S_savedMany S_text S_length S_fetched S_predicted S_fetchedMany S_fetchedWay S_spot S_isWrong S_executedByText ++ []) hK hN hP hD (by simp only [List.append_assoc, List.nil_append, List.append_nil])) rfl rfl hl.1 rfl (lv_room (Nat.le_of_ble_eq_true rfl)) dX7_setPattern_4 ⟨Nat.le_of_ble_eq_true rfl, Nat.le_of_ble_eq_true rfl⟩) hP hD hS hA (by simp only [List.append_assoc, List.nil_append, List.append_nil]) (by simp only [List.append_assoc, List.nil_append, List.append_nil]) (fun H locs hP hD hS => ?_)
  refine lv_if_eq (tgt := 27) hx hb dX7_setPattern_7 (by decide) (fun c7 => ?_) (fun c7 => ?_)
  · have hf := if_t c7 hf
    exact J27 S_thrown S_s S_saved S_savedMany _ _ _ hf hP hD hS (lv_sub hl [0, 1, 2, 3] rfl)
  · have hf := if_f c7 hf
    refine lv_iload_n hx hb dX7_setPattern_10 rfl (lv_at hl 2 rfl) ?_
    refine lv_iconst (v := 0) hx hb dX7_setPattern_11 (by decide) ?_
    refine lv_iconst (v := 1) hx hb dX7_setPattern_12 (by decide) ?_
    refine lv_iload_n hx hb dX7_setPattern_13 rfl (lv_at hl 3 rfl) ?_
    refine lv_ishl hx hb dX7_setPattern_14 ?_
    refine lv_iconst (v := 1) hx hb dX7_setPattern_15 (by decide) ?_
    refine lv_isub hx hb dX7_setPattern_16 ?_
    obtain ⟨y17, h17, hf⟩ := bn_t hf
    refine z_ai (x := []) (b := ([] : va_W)) (y := wX7 cI cZ cII aS S_thrown S_s S_aside S_saved S_savedMany S_text S_length S_fetched S_predicted S_fetchedMany S_fetchedWay S_spot S_isWrong S_executedByText ++ []) (b1 := ([] : va_W)) (wsn := wX7 cI cZ cII aS S_thrown S_s S_aside S_saved S_savedMany S_text S_length S_fetched S_predicted S_fetchedMany S_fetchedWay S_spot S_isWrong S_executedByText ++ []) (va_runS (As := [.int x2, .int (0 : Int32), .int (((1 : Int32) <<< (x3 &&& 31)) - (1 : Int32))]) (rest := []) ⟨hx, hb, hml, hown, hts⟩ (c_X7_in l D cI cZ cII cJ cM x2 (0 : Int32) (((1 : Int32) <<< (x3 &&& 31)) - (1 : Int32)) H.size y17 h17) (va_cwS 3 hts gX7_setPattern_X7_in rfl rfl rfl (by decide +kernel) ⟨Nat.le_of_ble_eq_true rfl, Nat.le_of_ble_eq_true rfl⟩) (pz_S (x := []) (b := ([] : va_W)) (y := wX7 cI cZ cII aS S_thrown S_s S_aside S_saved S_savedMany S_text S_length S_fetched S_predicted S_fetchedMany S_fetchedWay S_spot S_isWrong S_executedByText ++ []) hK hN hP hD (by simp only [List.append_assoc, List.nil_append, List.append_nil])) rfl rfl hl.1 rfl (lv_room (Nat.le_of_ble_eq_true rfl)) dX7_setPattern_17 ⟨Nat.le_of_ble_eq_true rfl, Nat.le_of_ble_eq_true rfl⟩) hP hD hS hA (by simp only [List.append_assoc, List.nil_append, List.append_nil]) (by simp only [List.append_assoc, List.nil_append, List.append_nil]) (fun H locs hP hD hS => ?_)
    refine lv_if_eq (tgt := 27) hx hb dX7_setPattern_20 (by decide) (fun c20 => ?_) (fun c20 => ?_)
    · have hf := if_t c20 hf
      exact J27 S_thrown S_s S_saved S_savedMany _ _ _ hf hP hD hS (lv_sub hl [0, 1, 2, 3] rfl)
    · have hf := if_f c20 hf
      refine lv_iconst (v := 1) hx hb dX7_setPattern_23 (by decide) ?_
      refine lv_goto (tgt := 28) hx hb dX7_setPattern_24 (by decide) ?_
      exact J28 S_thrown S_s S_saved S_savedMany (1 : Int32) _ _ _ hf hP hD hS (lv_sub hl [0, 1, 2, 3] rfl)
set_option maxHeartbeats 8000000 in
set_option maxRecDepth 100000 in
theorem c_X7_jumpTo (l : Launch) (D : va_G) (cI cZ cII cJ cM : ClassId) (aS : Nat → Nat) (S_thrown : Int32) (S_s : Nat → Int32) (S_aside : Nat → Int32) (S_saved : Nat → Int32) (S_savedMany : Int32) (S_text : Nat → Int32) (S_length : Int32) (S_fetched : Nat → Int32) (S_predicted : Nat → Int32) (S_fetchedMany : Int32) (S_fetchedWay : Int32) (S_spot : Int32) (S_isWrong : Int32) (S_executedByText : Int32) (x1 : Int32) (sz : Nat) (y : (Int32) × (Int32) × (Nat → Int32) × (Nat → Int32) × (Int32)) (hf : m_X7_jumpTo S_thrown S_s S_saved S_savedMany x1 = some y) : Met l yX7_jumpTo wsX7_jumpTo ({ frames := 2, cells := 0, slots := 0, locals := 42 } : Room) (va_Pc [.ref (aS 0), .int x1] (pzPre D (zT cI cZ cII cJ cM) (wX7 cI cZ cII aS S_thrown S_s S_aside S_saved S_savedMany S_text S_length S_fetched S_predicted S_fetchedMany S_fetchedWay S_spot S_isWrong S_executedByText ++ []) sz)) (va_Qi (fun v (_ : Unit) => v = y.1) (fun _ t => pzB D (zT cI cZ cII cJ cM) (va_A (wX7 cI cZ cII aS S_thrown S_s S_aside S_saved S_savedMany S_text S_length S_fetched S_predicted S_fetchedMany S_fetchedWay S_spot S_isWrong S_executedByText ++ []) sz) (wX7 cI cZ cII aS y.2.1 y.2.2.1 S_aside y.2.2.2.1 y.2.2.2.2 S_text S_length S_fetched S_predicted S_fetchedMany S_fetchedWay S_spot S_isWrong S_executedByText ++ []) t) (va_A (wX7 cI cZ cII aS S_thrown S_s S_aside S_saved S_savedMany S_text S_length S_fetched S_predicted S_fetchedMany S_fetchedWay S_spot S_isWrong S_executedByText ++ []) sz)) 0 0 (va_A (wX7 cI cZ cII aS S_thrown S_s S_aside S_saved S_savedMany S_text S_length S_fetched S_predicted S_fetchedMany S_fetchedWay S_spot S_isWrong S_executedByText ++ []) sz) := by
  refine z_meti (cc := cX7_jumpTo) (maxL := 3) (by decide) rfl (Nat.le_of_ble_eq_true rfl) ?_
  intro p e s m args below meth c A ls Q H locs F hP hD hS hl hret
  obtain ⟨hx, hb, hml, hown, hts, hN, hK, hA⟩ := F
  have hown : s.vm.findClass RX7 = some m.cls := hown
  have hl : lv_has ls 3 [(0, .ref (aS 0)), (1, .int x1)] := hl
  have inX7 : ∀ w ∈ u_ws RX7 TX7 14, w ∈ wsX7_jumpTo := by decide +kernel
  have kX7_7 := hts (.fieldLink RX7 7 "TraceCacheModel" "s" "[I") (by decide +kernel)
  have J13 : ∀ (S_thrown : Int32) (S_s : Nat → Int32) (S_saved : Nat → Int32) (S_savedMany : Int32) (k1 : Int32) (H : Heap) (locs : List Loc) (ls : Array Slot), m_X7_jumpTo_13 x1 S_thrown S_s S_saved S_savedMany k1 = some y → va_P D vwCl (wX7 cI cZ cII aS S_thrown S_s S_aside S_saved S_savedMany S_text S_length S_fetched S_predicted S_fetchedMany S_fetchedWay S_spot S_isWrong S_executedByText ++ []) H → va_D A (wX7 cI cZ cII aS S_thrown S_s S_aside S_saved S_savedMany S_text S_length S_fetched S_predicted S_fetchedMany S_fetchedWay S_spot S_isWrong S_executedByText ++ []) → va_S A s.heap H locs → lv_has ls 3 [(0, .ref (aS 0)), (1, .int x1)] → W p l e ({ frames := 2, cells := 0, slots := 0, locals := 42 } : Room) s m args below meth c H locs 0 0 Q (F0 m 13 ls [.int k1, .ref (aS 0)]) := by
    intro S_thrown S_s S_saved S_savedMany k1 H locs ls hf hP hD hS hl
    unfold m_X7_jumpTo_13 at hf
    obtain ⟨y13, h13, hf⟩ := bn_t hf
    refine z_ai (x := []) (b := wX7 cI cZ cII aS S_thrown S_s S_aside S_saved S_savedMany S_text S_length S_fetched S_predicted S_fetchedMany S_fetchedWay S_spot S_isWrong S_executedByText ++ []) (y := ([] : va_W)) (b1 := wX7 cI cZ cII aS y13.2 S_s S_aside S_saved S_savedMany S_text S_length S_fetched S_predicted S_fetchedMany S_fetchedWay S_spot S_isWrong S_executedByText ++ []) (wsn := wX7 cI cZ cII aS y13.2 S_s S_aside S_saved S_savedMany S_text S_length S_fetched S_predicted S_fetchedMany S_fetchedWay S_spot S_isWrong S_executedByText ++ []) (va_runV (As := [.int k1]) (rest := []) ⟨hx, hb, hml, hown, hts⟩ (c_X7_holds l D cI cZ cII cJ cM aS S_thrown S_s S_aside S_saved S_savedMany S_text S_length S_fetched S_predicted S_fetchedMany S_fetchedWay S_spot S_isWrong S_executedByText k1 H.size y13 h13) (cwV 1 hts gX7_jumpTo_X7_holds rfl rfl rfl (by decide +kernel) ⟨Nat.le_of_ble_eq_true rfl, Nat.le_of_ble_eq_true rfl⟩) (pz_V (x := []) (b := wX7 cI cZ cII aS S_thrown S_s S_aside S_saved S_savedMany S_text S_length S_fetched S_predicted S_fetchedMany S_fetchedWay S_spot S_isWrong S_executedByText ++ []) (y := ([] : va_W)) (C := RX7) (T := TX7) (N := 14) (ci := 7) (As := [.int k1]) (bi := 0) hK hN hP hD (by simp only [List.append_assoc, List.nil_append, List.append_nil]) rfl rfl) rfl rfl hl.1 rfl (lv_room (Nat.le_of_ble_eq_true rfl)) dX7_jumpTo_13 ⟨Nat.le_of_ble_eq_true rfl, Nat.le_of_ble_eq_true rfl⟩) hP hD hS hA (by simp only [List.append_assoc, List.nil_append, List.append_nil]) (by simp only [List.append_assoc, List.nil_append, List.append_nil]) (fun H locs hP hD hS => ?_)
    refine lv_if_ne (tgt := 21) hx hb dX7_jumpTo_16 (by decide) (fun c16 => ?_) (fun c16 => ?_)
    · have hf := if_f c16 hf
      refine lv_aload_n hx hb dX7_jumpTo_21 rfl (lv_at hl 0 rfl) ?_
      obtain ⟨y22, h22, hf⟩ := bn_t hf
      refine z_av (x := []) (b := wX7 cI cZ cII aS y13.2 S_s S_aside S_saved S_savedMany S_text S_length S_fetched S_predicted S_fetchedMany S_fetchedWay S_spot S_isWrong S_executedByText ++ []) (y := ([] : va_W)) (b1 := wX7 cI cZ cII aS y13.2 S_s S_aside y22.1 y22.2 S_text S_length S_fetched S_predicted S_fetchedMany S_fetchedWay S_spot S_isWrong S_executedByText ++ []) (wsn := wX7 cI cZ cII aS y13.2 S_s S_aside y22.1 y22.2 S_text S_length S_fetched S_predicted S_fetchedMany S_fetchedWay S_spot S_isWrong S_executedByText ++ []) (va_runV (As := []) (rest := []) ⟨hx, hb, hml, hown, hts⟩ (c_X7_save l D cI cZ cII cJ cM aS y13.2 S_s S_aside S_saved S_savedMany S_text S_length S_fetched S_predicted S_fetchedMany S_fetchedWay S_spot S_isWrong S_executedByText H.size y22 h22) (cwV 0 hts gX7_jumpTo_X7_save rfl rfl rfl (by decide +kernel) ⟨Nat.le_of_ble_eq_true rfl, Nat.le_of_ble_eq_true rfl⟩) (pz_V (x := []) (b := wX7 cI cZ cII aS y13.2 S_s S_aside S_saved S_savedMany S_text S_length S_fetched S_predicted S_fetchedMany S_fetchedWay S_spot S_isWrong S_executedByText ++ []) (y := ([] : va_W)) (C := RX7) (T := TX7) (N := 14) (ci := 7) (As := []) (bi := 0) hK hN hP hD (by simp only [List.append_assoc, List.nil_append, List.append_nil]) rfl rfl) rfl rfl hl.1 rfl (lv_room (Nat.le_of_ble_eq_true rfl)) dX7_jumpTo_22 ⟨Nat.le_of_ble_eq_true rfl, Nat.le_of_ble_eq_true rfl⟩) hP hD hS hA (by simp only [List.append_assoc, List.nil_append, List.append_nil]) (by simp only [List.append_assoc, List.nil_append, List.append_nil]) (fun H locs hP hD hS => ?_)
      refine lv_aload_n hx hb dX7_jumpTo_25 rfl (lv_at hl 0 rfl) ?_
      refine va_get (D := D) (ci := 7) (v := .ref (aS 1)) (C := RX7) (T := TX7) (N := 14) hx hb hts inX7 hown hK hP 0 rfl rfl 1 (by decide) kX7_7 (fun _ h9 => h9) rfl dX7_jumpTo_26 ?_
      refine lv_sipush (v := 288) hx hb dX7_jumpTo_29 (by decide) ?_
      obtain ⟨g32, hf⟩ := gd_t hf
      refine va_iald hx hb hK hP 1 0 rfl rfl (inb_t g32) dX7_jumpTo_32 ?_
      refine lv_topi (fun v33 ev33 => ?_)
      have hf := bd_t ev33 hf
      refine lv_istore_n (lv' := [(2, .int v33), (0, .ref (aS 0)), (1, .int x1)]) hx hb dX7_jumpTo_33 rfl hl (by decide) rfl (fun ls hl => ?_)
      refine lv_aload_n hx hb dX7_jumpTo_34 rfl (lv_at hl 1 rfl) ?_
      refine va_get (D := D) (ci := 7) (v := .ref (aS 1)) (C := RX7) (T := TX7) (N := 14) hx hb hts inX7 hown hK hP 0 rfl rfl 1 (by decide) kX7_7 (fun _ h9 => h9) rfl dX7_jumpTo_35 ?_
      refine lv_sipush (v := 288) hx hb dX7_jumpTo_38 (by decide) ?_
      refine lv_iload_n hx hb dX7_jumpTo_41 rfl (lv_at hl 2 rfl) ?_
      obtain ⟨g42, hf⟩ := gd_t hf
      refine va_iast hx hb hK hP hD hS 1 0 rfl rfl (inb_t g42) dX7_jumpTo_42 (fun H locs hP hD hS => ?_)
      obtain ⟨S_s_42, eS_s_42⟩ : ∃ z : Nat → Int32, z = upd S_s (Int32.toNatClampNeg (288 : Int32)) x1 := ⟨_, rfl⟩
      have hf := bd_t eS_s_42 hf
      have hP : va_P D vwCl (wX7 cI cZ cII aS y13.2 S_s_42 S_aside y22.1 y22.2 S_text S_length S_fetched S_predicted S_fetchedMany S_fetchedWay S_spot S_isWrong S_executedByText ++ []) H := by rw [eS_s_42]; exact hP
      have hD : va_D A (wX7 cI cZ cII aS y13.2 S_s_42 S_aside y22.1 y22.2 S_text S_length S_fetched S_predicted S_fetchedMany S_fetchedWay S_spot S_isWrong S_executedByText ++ []) := by rw [eS_s_42]; exact hD
      refine lv_aload_n hx hb dX7_jumpTo_43 rfl (lv_at hl 1 rfl) ?_
      refine va_get (D := D) (ci := 7) (v := .ref (aS 1)) (C := RX7) (T := TX7) (N := 14) hx hb hts inX7 hown hK hP 0 rfl rfl 1 (by decide) kX7_7 (fun _ h9 => h9) rfl dX7_jumpTo_44 ?_
      refine lv_sipush (v := 369) hx hb dX7_jumpTo_47 (by decide) ?_
      refine lv_iconst (v := 0) hx hb dX7_jumpTo_50 (by decide) ?_
      obtain ⟨g51, hf⟩ := gd_t hf
      refine va_iast hx hb hK hP hD hS 1 0 rfl rfl (inb_t g51) dX7_jumpTo_51 (fun H locs hP hD hS => ?_)
      obtain ⟨S_s_51, eS_s_51⟩ : ∃ z : Nat → Int32, z = upd S_s_42 (Int32.toNatClampNeg (369 : Int32)) (0 : Int32) := ⟨_, rfl⟩
      have hf := bd_t eS_s_51 hf
      have hP : va_P D vwCl (wX7 cI cZ cII aS y13.2 S_s_51 S_aside y22.1 y22.2 S_text S_length S_fetched S_predicted S_fetchedMany S_fetchedWay S_spot S_isWrong S_executedByText ++ []) H := by rw [eS_s_51]; exact hP
      have hD : va_D A (wX7 cI cZ cII aS y13.2 S_s_51 S_aside y22.1 y22.2 S_text S_length S_fetched S_predicted S_fetchedMany S_fetchedWay S_spot S_isWrong S_executedByText ++ []) := by rw [eS_s_51]; exact hD
      refine lv_iload_n hx hb dX7_jumpTo_52 rfl (lv_at hl 0 rfl) ?_
      obtain rfl := Option.some.inj hf
      exact hret _ _ _ _ _ dX7_jumpTo_53 rfl hP hD hS
    · have hf := if_t c16 hf
      refine lv_iconst (v := 0) hx hb dX7_jumpTo_19 (by decide) ?_
      obtain rfl := Option.some.inj hf
      exact hret _ _ _ _ _ dX7_jumpTo_20 rfl hP hD hS
  unfold m_X7_jumpTo at hf
  refine lv_aload_n hx hb dX7_jumpTo_0 rfl (lv_at hl 0 rfl) ?_
  refine lv_iload_n hx hb dX7_jumpTo_1 rfl (lv_at hl 1 rfl) ?_
  obtain ⟨y2, h2, hf⟩ := bn_t hf
  refine z_ai (x := []) (b := ([] : va_W)) (y := wX7 cI cZ cII aS S_thrown S_s S_aside S_saved S_savedMany S_text S_length S_fetched S_predicted S_fetchedMany S_fetchedWay S_spot S_isWrong S_executedByText ++ []) (b1 := ([] : va_W)) (wsn := wX7 cI cZ cII aS S_thrown S_s S_aside S_saved S_savedMany S_text S_length S_fetched S_predicted S_fetchedMany S_fetchedWay S_spot S_isWrong S_executedByText ++ []) (va_runS (As := [.int x1]) (rest := [.ref (aS 0)]) ⟨hx, hb, hml, hown, hts⟩ (c_X7_isAddress l D cI cZ cII cJ cM x1 H.size y2 h2) (va_cwS 1 hts gX7_jumpTo_X7_isAddress rfl rfl rfl (by decide +kernel) ⟨Nat.le_of_ble_eq_true rfl, Nat.le_of_ble_eq_true rfl⟩) (pz_S (x := []) (b := ([] : va_W)) (y := wX7 cI cZ cII aS S_thrown S_s S_aside S_saved S_savedMany S_text S_length S_fetched S_predicted S_fetchedMany S_fetchedWay S_spot S_isWrong S_executedByText ++ []) hK hN hP hD (by simp only [List.append_assoc, List.nil_append, List.append_nil])) rfl rfl hl.1 rfl (lv_room (Nat.le_of_ble_eq_true rfl)) dX7_jumpTo_2 ⟨Nat.le_of_ble_eq_true rfl, Nat.le_of_ble_eq_true rfl⟩) hP hD hS hA (by simp only [List.append_assoc, List.nil_append, List.append_nil]) (by simp only [List.append_assoc, List.nil_append, List.append_nil]) (fun H locs hP hD hS => ?_)
  refine lv_if_eq (tgt := 12) hx hb dX7_jumpTo_5 (by decide) (fun c5 => ?_) (fun c5 => ?_)
  · have hf := if_t c5 hf
    refine lv_iconst (v := 1) hx hb dX7_jumpTo_12 (by decide) ?_
    exact J13 S_thrown S_s S_saved S_savedMany (1 : Int32) _ _ _ hf hP hD hS (lv_sub hl [0, 1] rfl)
  · have hf := if_f c5 hf
    refine lv_iconst (v := 0) hx hb dX7_jumpTo_8 (by decide) ?_
    refine lv_goto (tgt := 13) hx hb dX7_jumpTo_9 (by decide) ?_
    exact J13 S_thrown S_s S_saved S_savedMany (0 : Int32) _ _ _ hf hP hD hS (lv_sub hl [0, 1] rfl)
set_option maxHeartbeats 8000000 in
set_option maxRecDepth 100000 in
theorem c_X7_run (l : Launch) (D : va_G) (cI cZ cII cJ cM : ClassId) (aS : Nat → Nat) (S_thrown : Int32) (S_s : Nat → Int32) (S_aside : Nat → Int32) (S_saved : Nat → Int32) (S_savedMany : Int32) (S_text : Nat → Int32) (S_length : Int32) (S_fetched : Nat → Int32) (S_predicted : Nat → Int32) (S_fetchedMany : Int32) (S_fetchedWay : Int32) (S_spot : Int32) (S_isWrong : Int32) (S_executedByText : Int32) (x1 : Int32) (sz : Nat) (y : (Int32) × (Int32) × (Nat → Int32) × (Nat → Int32) × (Int32) × (Nat → Int32) × (Nat → Int32) × (Int32) × (Int32)) (hf : m_X7_run S_thrown S_s S_saved S_savedMany S_fetched S_predicted S_fetchedMany S_fetchedWay x1 = some y) : Met l yX7_run wsX7_run ({ frames := 7, cells := 0, slots := 0, locals := 158 } : Room) (va_Pc [.ref (aS 0), .int x1] (pzPre D (zT cI cZ cII cJ cM) (wX7 cI cZ cII aS S_thrown S_s S_aside S_saved S_savedMany S_text S_length S_fetched S_predicted S_fetchedMany S_fetchedWay S_spot S_isWrong S_executedByText ++ []) sz)) (va_Qi (fun v (_ : Unit) => v = y.1) (fun _ t => pzB D (zT cI cZ cII cJ cM) (va_A (wX7 cI cZ cII aS S_thrown S_s S_aside S_saved S_savedMany S_text S_length S_fetched S_predicted S_fetchedMany S_fetchedWay S_spot S_isWrong S_executedByText ++ []) sz) (wX7 cI cZ cII aS y.2.1 y.2.2.1 S_aside y.2.2.2.1 y.2.2.2.2.1 S_text S_length y.2.2.2.2.2.1 y.2.2.2.2.2.2.1 y.2.2.2.2.2.2.2.1 y.2.2.2.2.2.2.2.2 S_spot S_isWrong S_executedByText ++ []) t) (va_A (wX7 cI cZ cII aS S_thrown S_s S_aside S_saved S_savedMany S_text S_length S_fetched S_predicted S_fetchedMany S_fetchedWay S_spot S_isWrong S_executedByText ++ []) sz)) 0 0 (va_A (wX7 cI cZ cII aS S_thrown S_s S_aside S_saved S_savedMany S_text S_length S_fetched S_predicted S_fetchedMany S_fetchedWay S_spot S_isWrong S_executedByText ++ []) sz) := by
  refine z_meti (cc := cX7_run) (maxL := 2) (by decide) rfl (Nat.le_of_ble_eq_true rfl) ?_
  intro p e s m args below meth c A ls Q H locs F hP hD hS hl hret
  obtain ⟨hx, hb, hml, hown, hts, hN, hK, hA⟩ := F
  have hown : s.vm.findClass RX7 = some m.cls := hown
  have hl : lv_has ls 2 [(0, .ref (aS 0)), (1, .int x1)] := hl
  have J16 : ∀ (S_thrown : Int32) (S_s : Nat → Int32) (S_saved : Nat → Int32) (S_savedMany : Int32) (S_fetched : Nat → Int32) (S_predicted : Nat → Int32) (S_fetchedMany : Int32) (S_fetchedWay : Int32) (k1 : Int32) (H : Heap) (locs : List Loc) (ls : Array Slot), m_X7_run_16 x1 S_thrown S_s S_saved S_savedMany S_fetched S_predicted S_fetchedMany S_fetchedWay k1 = some y → va_P D vwCl (wX7 cI cZ cII aS S_thrown S_s S_aside S_saved S_savedMany S_text S_length S_fetched S_predicted S_fetchedMany S_fetchedWay S_spot S_isWrong S_executedByText ++ []) H → va_D A (wX7 cI cZ cII aS S_thrown S_s S_aside S_saved S_savedMany S_text S_length S_fetched S_predicted S_fetchedMany S_fetchedWay S_spot S_isWrong S_executedByText ++ []) → va_S A s.heap H locs → lv_has ls 2 [(0, .ref (aS 0)), (1, .int x1)] → W p l e ({ frames := 7, cells := 0, slots := 0, locals := 158 } : Room) s m args below meth c H locs 0 0 Q (F0 m 16 ls [.int k1, .ref (aS 0)]) := by
    intro S_thrown S_s S_saved S_savedMany S_fetched S_predicted S_fetchedMany S_fetchedWay k1 H locs ls hf hP hD hS hl
    unfold m_X7_run_16 at hf
    obtain ⟨y16, h16, hf⟩ := bn_t hf
    refine z_ai (x := []) (b := wX7 cI cZ cII aS S_thrown S_s S_aside S_saved S_savedMany S_text S_length S_fetched S_predicted S_fetchedMany S_fetchedWay S_spot S_isWrong S_executedByText ++ []) (y := ([] : va_W)) (b1 := wX7 cI cZ cII aS y16.2 S_s S_aside S_saved S_savedMany S_text S_length S_fetched S_predicted S_fetchedMany S_fetchedWay S_spot S_isWrong S_executedByText ++ []) (wsn := wX7 cI cZ cII aS y16.2 S_s S_aside S_saved S_savedMany S_text S_length S_fetched S_predicted S_fetchedMany S_fetchedWay S_spot S_isWrong S_executedByText ++ []) (va_runV (As := [.int k1]) (rest := []) ⟨hx, hb, hml, hown, hts⟩ (c_X7_holds l D cI cZ cII cJ cM aS S_thrown S_s S_aside S_saved S_savedMany S_text S_length S_fetched S_predicted S_fetchedMany S_fetchedWay S_spot S_isWrong S_executedByText k1 H.size y16 h16) (cwV 1 hts gX7_run_X7_holds rfl rfl rfl (by decide +kernel) ⟨Nat.le_of_ble_eq_true rfl, Nat.le_of_ble_eq_true rfl⟩) (pz_V (x := []) (b := wX7 cI cZ cII aS S_thrown S_s S_aside S_saved S_savedMany S_text S_length S_fetched S_predicted S_fetchedMany S_fetchedWay S_spot S_isWrong S_executedByText ++ []) (y := ([] : va_W)) (C := RX7) (T := TX7) (N := 14) (ci := 7) (As := [.int k1]) (bi := 0) hK hN hP hD (by simp only [List.append_assoc, List.nil_append, List.append_nil]) rfl rfl) rfl rfl hl.1 rfl (lv_room (Nat.le_of_ble_eq_true rfl)) dX7_run_16 ⟨Nat.le_of_ble_eq_true rfl, Nat.le_of_ble_eq_true rfl⟩) hP hD hS hA (by simp only [List.append_assoc, List.nil_append, List.append_nil]) (by simp only [List.append_assoc, List.nil_append, List.append_nil]) (fun H locs hP hD hS => ?_)
    refine lv_if_ne (tgt := 24) hx hb dX7_run_19 (by decide) (fun c19 => ?_) (fun c19 => ?_)
    · have hf := if_f c19 hf
      refine lv_aload_n hx hb dX7_run_24 rfl (lv_at hl 0 rfl) ?_
      obtain ⟨y25, h25, hf⟩ := bn_t hf
      refine z_av (x := []) (b := wX7 cI cZ cII aS y16.2 S_s S_aside S_saved S_savedMany S_text S_length S_fetched S_predicted S_fetchedMany S_fetchedWay S_spot S_isWrong S_executedByText ++ []) (y := ([] : va_W)) (b1 := wX7 cI cZ cII aS y16.2 S_s S_aside y25.1 y25.2 S_text S_length S_fetched S_predicted S_fetchedMany S_fetchedWay S_spot S_isWrong S_executedByText ++ []) (wsn := wX7 cI cZ cII aS y16.2 S_s S_aside y25.1 y25.2 S_text S_length S_fetched S_predicted S_fetchedMany S_fetchedWay S_spot S_isWrong S_executedByText ++ []) (va_runV (As := []) (rest := []) ⟨hx, hb, hml, hown, hts⟩ (c_X7_save l D cI cZ cII cJ cM aS y16.2 S_s S_aside S_saved S_savedMany S_text S_length S_fetched S_predicted S_fetchedMany S_fetchedWay S_spot S_isWrong S_executedByText H.size y25 h25) (cwV 0 hts gX7_run_X7_save rfl rfl rfl (by decide +kernel) ⟨Nat.le_of_ble_eq_true rfl, Nat.le_of_ble_eq_true rfl⟩) (pz_V (x := []) (b := wX7 cI cZ cII aS y16.2 S_s S_aside S_saved S_savedMany S_text S_length S_fetched S_predicted S_fetchedMany S_fetchedWay S_spot S_isWrong S_executedByText ++ []) (y := ([] : va_W)) (C := RX7) (T := TX7) (N := 14) (ci := 7) (As := []) (bi := 0) hK hN hP hD (by simp only [List.append_assoc, List.nil_append, List.append_nil]) rfl rfl) rfl rfl hl.1 rfl (lv_room (Nat.le_of_ble_eq_true rfl)) dX7_run_25 ⟨Nat.le_of_ble_eq_true rfl, Nat.le_of_ble_eq_true rfl⟩) hP hD hS hA (by simp only [List.append_assoc, List.nil_append, List.append_nil]) (by simp only [List.append_assoc, List.nil_append, List.append_nil]) (fun H locs hP hD hS => ?_)
      refine lv_aload_n hx hb dX7_run_28 rfl (lv_at hl 0 rfl) ?_
      refine lv_iload_n hx hb dX7_run_29 rfl (lv_at hl 1 rfl) ?_
      obtain ⟨y30, h30, hf⟩ := bn_t hf
      refine z_ai (x := []) (b := wX7 cI cZ cII aS y16.2 S_s S_aside y25.1 y25.2 S_text S_length S_fetched S_predicted S_fetchedMany S_fetchedWay S_spot S_isWrong S_executedByText ++ []) (y := ([] : va_W)) (b1 := wX7 cI cZ cII aS y16.2 y30.2.1 S_aside y25.1 y25.2 S_text S_length y30.2.2.1 y30.2.2.2.1 y30.2.2.2.2.1 y30.2.2.2.2.2 S_spot S_isWrong S_executedByText ++ []) (wsn := wX7 cI cZ cII aS y16.2 y30.2.1 S_aside y25.1 y25.2 S_text S_length y30.2.2.1 y30.2.2.2.1 y30.2.2.2.2.1 y30.2.2.2.2.2 S_spot S_isWrong S_executedByText ++ []) (va_runV (As := [.int x1]) (rest := []) ⟨hx, hb, hml, hown, hts⟩ (c_X7_runs l D cI cZ cII cJ cM aS y16.2 S_s S_aside y25.1 y25.2 S_text S_length S_fetched S_predicted S_fetchedMany S_fetchedWay S_spot S_isWrong S_executedByText x1 H.size y30 h30) (cwV 1 hts gX7_run_X7_runs rfl rfl rfl (by decide +kernel) ⟨Nat.le_of_ble_eq_true rfl, Nat.le_of_ble_eq_true rfl⟩) (pz_V (x := []) (b := wX7 cI cZ cII aS y16.2 S_s S_aside y25.1 y25.2 S_text S_length S_fetched S_predicted S_fetchedMany S_fetchedWay S_spot S_isWrong S_executedByText ++ []) (y := ([] : va_W)) (C := RX7) (T := TX7) (N := 14) (ci := 7) (As := [.int x1]) (bi := 0) hK hN hP hD (by simp only [List.append_assoc, List.nil_append, List.append_nil]) rfl rfl) rfl rfl hl.1 rfl (lv_room (Nat.le_of_ble_eq_true rfl)) dX7_run_30 ⟨Nat.le_of_ble_eq_true rfl, Nat.le_of_ble_eq_true rfl⟩) hP hD hS hA (by simp only [List.append_assoc, List.nil_append, List.append_nil]) (by simp only [List.append_assoc, List.nil_append, List.append_nil]) (fun H locs hP hD hS => ?_)
      obtain rfl := Option.some.inj hf
      exact hret _ _ _ _ _ dX7_run_33 rfl hP hD hS
    · have hf := if_t c19 hf
      refine lv_iconst (v := 0) hx hb dX7_run_22 (by decide) ?_
      obtain rfl := Option.some.inj hf
      exact hret _ _ _ _ _ dX7_run_23 rfl hP hD hS
  unfold m_X7_run at hf
  refine lv_aload_n hx hb dX7_run_0 rfl (lv_at hl 0 rfl) ?_
  refine lv_iload_n hx hb dX7_run_1 rfl (lv_at hl 1 rfl) ?_
  refine lv_iconst (v := 1) hx hb dX7_run_2 (by decide) ?_
  refine lv_bipush (v := 99) hx hb dX7_run_3 (by decide) ?_
  obtain ⟨y5, h5, hf⟩ := bn_t hf
  refine z_ai (x := []) (b := ([] : va_W)) (y := wX7 cI cZ cII aS S_thrown S_s S_aside S_saved S_savedMany S_text S_length S_fetched S_predicted S_fetchedMany S_fetchedWay S_spot S_isWrong S_executedByText ++ []) (b1 := ([] : va_W)) (wsn := wX7 cI cZ cII aS S_thrown S_s S_aside S_saved S_savedMany S_text S_length S_fetched S_predicted S_fetchedMany S_fetchedWay S_spot S_isWrong S_executedByText ++ []) (va_runS (As := [.int x1, .int (1 : Int32), .int (99 : Int32)]) (rest := [.ref (aS 0)]) ⟨hx, hb, hml, hown, hts⟩ (c_X7_in l D cI cZ cII cJ cM x1 (1 : Int32) (99 : Int32) H.size y5 h5) (va_cwS 3 hts gX7_run_X7_in rfl rfl rfl (by decide +kernel) ⟨Nat.le_of_ble_eq_true rfl, Nat.le_of_ble_eq_true rfl⟩) (pz_S (x := []) (b := ([] : va_W)) (y := wX7 cI cZ cII aS S_thrown S_s S_aside S_saved S_savedMany S_text S_length S_fetched S_predicted S_fetchedMany S_fetchedWay S_spot S_isWrong S_executedByText ++ []) hK hN hP hD (by simp only [List.append_assoc, List.nil_append, List.append_nil])) rfl rfl hl.1 rfl (lv_room (Nat.le_of_ble_eq_true rfl)) dX7_run_5 ⟨Nat.le_of_ble_eq_true rfl, Nat.le_of_ble_eq_true rfl⟩) hP hD hS hA (by simp only [List.append_assoc, List.nil_append, List.append_nil]) (by simp only [List.append_assoc, List.nil_append, List.append_nil]) (fun H locs hP hD hS => ?_)
  refine lv_if_eq (tgt := 15) hx hb dX7_run_8 (by decide) (fun c8 => ?_) (fun c8 => ?_)
  · have hf := if_t c8 hf
    refine lv_iconst (v := 1) hx hb dX7_run_15 (by decide) ?_
    exact J16 S_thrown S_s S_saved S_savedMany S_fetched S_predicted S_fetchedMany S_fetchedWay (1 : Int32) _ _ _ hf hP hD hS (lv_sub hl [0, 1] rfl)
  · have hf := if_f c8 hf
    refine lv_iconst (v := 0) hx hb dX7_run_11 (by decide) ?_
    refine lv_goto (tgt := 16) hx hb dX7_run_12 (by decide) ?_
    exact J16 S_thrown S_s S_saved S_savedMany S_fetched S_predicted S_fetchedMany S_fetchedWay (0 : Int32) _ _ _ hf hP hD hS (lv_sub hl [0, 1] rfl)
set_option maxHeartbeats 8000000 in
set_option maxRecDepth 100000 in
theorem c_X7_linesNow (l : Launch) (D : va_G) (cI cZ cII cJ cM : ClassId) (aS : Nat → Nat) (S_thrown : Int32) (S_s : Nat → Int32) (S_aside : Nat → Int32) (S_saved : Nat → Int32) (S_savedMany : Int32) (S_text : Nat → Int32) (S_length : Int32) (S_fetched : Nat → Int32) (S_predicted : Nat → Int32) (S_fetchedMany : Int32) (S_fetchedWay : Int32) (S_spot : Int32) (S_isWrong : Int32) (S_executedByText : Int32) (sz : Nat) (y : (Int32)) (hf : m_X7_linesNow S_s = some y) : Met l yX7_linesNow wsX7_linesNow ({ frames := 1, cells := 0, slots := 0, locals := 21 } : Room) (va_Pc [.ref (aS 0)] (pzPre D (zT cI cZ cII cJ cM) (wX7 cI cZ cII aS S_thrown S_s S_aside S_saved S_savedMany S_text S_length S_fetched S_predicted S_fetchedMany S_fetchedWay S_spot S_isWrong S_executedByText ++ []) sz)) (va_Qi (fun v (_ : Unit) => v = y) (fun _ t => pzB D (zT cI cZ cII cJ cM) (va_A (wX7 cI cZ cII aS S_thrown S_s S_aside S_saved S_savedMany S_text S_length S_fetched S_predicted S_fetchedMany S_fetchedWay S_spot S_isWrong S_executedByText ++ []) sz) (wX7 cI cZ cII aS S_thrown S_s S_aside S_saved S_savedMany S_text S_length S_fetched S_predicted S_fetchedMany S_fetchedWay S_spot S_isWrong S_executedByText ++ []) t) (va_A (wX7 cI cZ cII aS S_thrown S_s S_aside S_saved S_savedMany S_text S_length S_fetched S_predicted S_fetchedMany S_fetchedWay S_spot S_isWrong S_executedByText ++ []) sz)) 0 0 (va_A (wX7 cI cZ cII aS S_thrown S_s S_aside S_saved S_savedMany S_text S_length S_fetched S_predicted S_fetchedMany S_fetchedWay S_spot S_isWrong S_executedByText ++ []) sz) := by
  refine z_meti (cc := cX7_linesNow) (maxL := 3) (by decide) rfl (Nat.le_of_ble_eq_true rfl) ?_
  intro p e s m args below meth c A ls Q H locs F hP hD hS hl hret
  obtain ⟨hx, hb, hml, hown, hts, hN, hK, hA⟩ := F
  have hown : s.vm.findClass RX7 = some m.cls := hown
  have hl : lv_has ls 3 [(0, .ref (aS 0))] := hl
  have inX7 : ∀ w ∈ u_ws RX7 TX7 14, w ∈ wsX7_linesNow := by decide +kernel
  have kX7_7 := hts (.fieldLink RX7 7 "TraceCacheModel" "s" "[I") (by decide +kernel)
  have J4 : ∀ (n4 : Nat), ∀ (x1 : Int32) (x2 : Int32) (H : Heap) (locs : List Loc) (ls : Array Slot), m_X7_linesNow_4 S_s n4 x1 x2 = some y → va_P D vwCl (wX7 cI cZ cII aS S_thrown S_s S_aside S_saved S_savedMany S_text S_length S_fetched S_predicted S_fetchedMany S_fetchedWay S_spot S_isWrong S_executedByText ++ []) H → va_D A (wX7 cI cZ cII aS S_thrown S_s S_aside S_saved S_savedMany S_text S_length S_fetched S_predicted S_fetchedMany S_fetchedWay S_spot S_isWrong S_executedByText ++ []) → va_S A s.heap H locs → lv_has ls 3 [(0, .ref (aS 0)), (1, .int x1), (2, .int x2)] → W p l e ({ frames := 1, cells := 0, slots := 0, locals := 21 } : Room) s m args below meth c H locs 0 0 Q (F0 m 4 ls []) := by
    intro n4
    induction n4 with
    | zero =>
      intro x1 x2 H locs ls hf hP hD hS hl
      rw [m_X7_linesNow_4] at hf
      cases hf
    | succ n4 ih4 =>
      have J29 : ∀ (x2 : Int32) (k0 : Int32) (k1 : Int32) (H : Heap) (locs : List Loc) (ls : Array Slot), m_X7_linesNow_29 S_s (m_X7_linesNow_4 S_s n4) x2 k0 k1 = some y → va_P D vwCl (wX7 cI cZ cII aS S_thrown S_s S_aside S_saved S_savedMany S_text S_length S_fetched S_predicted S_fetchedMany S_fetchedWay S_spot S_isWrong S_executedByText ++ []) H → va_D A (wX7 cI cZ cII aS S_thrown S_s S_aside S_saved S_savedMany S_text S_length S_fetched S_predicted S_fetchedMany S_fetchedWay S_spot S_isWrong S_executedByText ++ []) → va_S A s.heap H locs → lv_has ls 3 [(0, .ref (aS 0)), (2, .int x2)] → W p l e ({ frames := 1, cells := 0, slots := 0, locals := 21 } : Room) s m args below meth c H locs 0 0 Q (F0 m 29 ls [.int k1, .int k0]) := by
        intro x2 k0 k1 H locs ls hf hP hD hS hl
        unfold m_X7_linesNow_29 at hf
        refine lv_iadd hx hb dX7_linesNow_29 ?_
        refine lv_topi (fun v30 ev30 => ?_)
        have hf := bd_t ev30 hf
        refine lv_istore_n (lv' := [(1, .int v30), (0, .ref (aS 0)), (2, .int x2)]) hx hb dX7_linesNow_30 rfl hl (by decide) rfl (fun ls hl => ?_)
        obtain ⟨v31, ev31⟩ : ∃ z : Int32, z = x2 + (1 : Int32) := ⟨_, rfl⟩
        have hf := bd_t ev31 hf
        refine lv_iinc (v := v31) (lv' := [(2, .int v31), (1, .int v30), (0, .ref (aS 0))]) hx hb dX7_linesNow_31 hl (k := 2) rfl (by rw [ev31]; rfl) (by decide) rfl (fun ls hl => ?_)
        refine lv_goto (tgt := 4) hx hb dX7_linesNow_34 (by decide) ?_
        exact ih4 v30 v31 _ _ _ hf hP hD hS (lv_sub hl [2, 1, 0] rfl)
      intro x1 x2 H locs ls hf hP hD hS hl
      rw [m_X7_linesNow_4] at hf
      refine lv_iload_n hx hb dX7_linesNow_4 rfl (lv_at hl 2 rfl) ?_
      refine lv_bipush (v := 8) hx hb dX7_linesNow_5 (by decide) ?_
      refine lv_icmp_ge (tgt := 37) hx hb dX7_linesNow_7 (by decide) (fun c7 => ?_) (fun c7 => ?_)
      · have hf := if_t c7 hf
        refine lv_iload_n hx hb dX7_linesNow_37 rfl (lv_at hl 1 rfl) ?_
        obtain rfl := Option.some.inj hf
        exact hret _ _ _ _ _ dX7_linesNow_38 rfl hP hD hS
      · have hf := if_f c7 hf
        refine lv_iload_n hx hb dX7_linesNow_10 rfl (lv_at hl 1 rfl) ?_
        refine lv_aload_n hx hb dX7_linesNow_11 rfl (lv_at hl 0 rfl) ?_
        refine va_get (D := D) (ci := 7) (v := .ref (aS 1)) (C := RX7) (T := TX7) (N := 14) hx hb hts inX7 hown hK hP 0 rfl rfl 1 (by decide) kX7_7 (fun _ h9 => h9) rfl dX7_linesNow_12 ?_
        refine lv_iload_n hx hb dX7_linesNow_15 rfl (lv_at hl 2 rfl) ?_
        refine lv_iconst (v := 0) hx hb dX7_linesNow_16 (by decide) ?_
        obtain ⟨y17, h17, hf⟩ := bn_t hf
        refine z_ai (x := []) (b := ([] : va_W)) (y := wX7 cI cZ cII aS S_thrown S_s S_aside S_saved S_savedMany S_text S_length S_fetched S_predicted S_fetchedMany S_fetchedWay S_spot S_isWrong S_executedByText ++ []) (b1 := ([] : va_W)) (wsn := wX7 cI cZ cII aS S_thrown S_s S_aside S_saved S_savedMany S_text S_length S_fetched S_predicted S_fetchedMany S_fetchedWay S_spot S_isWrong S_executedByText ++ []) (va_runS (As := [.int x2, .int (0 : Int32)]) (rest := [.ref (aS 1), .int x1]) ⟨hx, hb, hml, hown, hts⟩ (c_X7_ofLine l D cI cZ cII cJ cM x2 (0 : Int32) H.size y17 h17) (va_cwS 2 hts gX7_linesNow_X7_ofLine rfl rfl rfl (by decide +kernel) ⟨Nat.le_of_ble_eq_true rfl, Nat.le_of_ble_eq_true rfl⟩) (pz_S (x := []) (b := ([] : va_W)) (y := wX7 cI cZ cII aS S_thrown S_s S_aside S_saved S_savedMany S_text S_length S_fetched S_predicted S_fetchedMany S_fetchedWay S_spot S_isWrong S_executedByText ++ []) hK hN hP hD (by simp only [List.append_assoc, List.nil_append, List.append_nil])) rfl rfl hl.1 rfl (lv_room (Nat.le_of_ble_eq_true rfl)) dX7_linesNow_17 ⟨Nat.le_of_ble_eq_true rfl, Nat.le_of_ble_eq_true rfl⟩) hP hD hS hA (by simp only [List.append_assoc, List.nil_append, List.append_nil]) (by simp only [List.append_assoc, List.nil_append, List.append_nil]) (fun H locs hP hD hS => ?_)
        obtain ⟨g20, hf⟩ := gd_t hf
        refine va_iald hx hb hK hP 1 0 rfl rfl (inb_t g20) dX7_linesNow_20 ?_
        refine lv_if_le (tgt := 28) hx hb dX7_linesNow_21 (by decide) (fun c21 => ?_) (fun c21 => ?_)
        · have hf := if_t c21 hf
          refine lv_iconst (v := 0) hx hb dX7_linesNow_28 (by decide) ?_
          exact J29 x2 x1 (0 : Int32) _ _ _ hf hP hD hS (lv_sub hl [0, 2] rfl)
        · have hf := if_f c21 hf
          refine lv_iconst (v := 1) hx hb dX7_linesNow_24 (by decide) ?_
          refine lv_goto (tgt := 29) hx hb dX7_linesNow_25 (by decide) ?_
          exact J29 x2 x1 (1 : Int32) _ _ _ hf hP hD hS (lv_sub hl [0, 2] rfl)
  unfold m_X7_linesNow at hf
  refine lv_iconst (v := 0) hx hb dX7_linesNow_0 (by decide) ?_
  refine lv_istore_n (lv' := [(1, .int (0 : Int32)), (0, .ref (aS 0))]) hx hb dX7_linesNow_1 rfl hl (by decide) rfl (fun ls hl => ?_)
  refine lv_iconst (v := 0) hx hb dX7_linesNow_2 (by decide) ?_
  refine lv_istore_n (lv' := [(2, .int (0 : Int32)), (1, .int (0 : Int32)), (0, .ref (aS 0))]) hx hb dX7_linesNow_3 rfl hl (by decide) rfl (fun ls hl => ?_)
  exact J4 4000 (0 : Int32) (0 : Int32) _ _ _ hf hP hD hS (lv_sub hl [2, 1, 0] rfl)
set_option maxHeartbeats 8000000 in
set_option maxRecDepth 100000 in
theorem c_X7_flush (l : Launch) (D : va_G) (cI cZ cII cJ cM : ClassId) (aS : Nat → Nat) (S_thrown : Int32) (S_s : Nat → Int32) (S_aside : Nat → Int32) (S_saved : Nat → Int32) (S_savedMany : Int32) (S_text : Nat → Int32) (S_length : Int32) (S_fetched : Nat → Int32) (S_predicted : Nat → Int32) (S_fetchedMany : Int32) (S_fetchedWay : Int32) (S_spot : Int32) (S_isWrong : Int32) (S_executedByText : Int32) (sz : Nat) (y : (Int32) × (Int32) × (Nat → Int32) × (Nat → Int32) × (Int32)) (hf : m_X7_flush S_thrown S_s S_saved S_savedMany = some y) : Met l yX7_flush wsX7_flush ({ frames := 2, cells := 0, slots := 0, locals := 43 } : Room) (va_Pc [.ref (aS 0)] (pzPre D (zT cI cZ cII cJ cM) (wX7 cI cZ cII aS S_thrown S_s S_aside S_saved S_savedMany S_text S_length S_fetched S_predicted S_fetchedMany S_fetchedWay S_spot S_isWrong S_executedByText ++ []) sz)) (va_Qi (fun v (_ : Unit) => v = y.1) (fun _ t => pzB D (zT cI cZ cII cJ cM) (va_A (wX7 cI cZ cII aS S_thrown S_s S_aside S_saved S_savedMany S_text S_length S_fetched S_predicted S_fetchedMany S_fetchedWay S_spot S_isWrong S_executedByText ++ []) sz) (wX7 cI cZ cII aS y.2.1 y.2.2.1 S_aside y.2.2.2.1 y.2.2.2.2 S_text S_length S_fetched S_predicted S_fetchedMany S_fetchedWay S_spot S_isWrong S_executedByText ++ []) t) (va_A (wX7 cI cZ cII aS S_thrown S_s S_aside S_saved S_savedMany S_text S_length S_fetched S_predicted S_fetchedMany S_fetchedWay S_spot S_isWrong S_executedByText ++ []) sz)) 0 0 (va_A (wX7 cI cZ cII aS S_thrown S_s S_aside S_saved S_savedMany S_text S_length S_fetched S_predicted S_fetchedMany S_fetchedWay S_spot S_isWrong S_executedByText ++ []) sz) := by
  refine z_meti (cc := cX7_flush) (maxL := 3) (by decide) rfl (Nat.le_of_ble_eq_true rfl) ?_
  intro p e s m args below meth c A ls Q H locs F hP hD hS hl hret
  obtain ⟨hx, hb, hml, hown, hts, hN, hK, hA⟩ := F
  have hown : s.vm.findClass RX7 = some m.cls := hown
  have hl : lv_has ls 3 [(0, .ref (aS 0))] := hl
  have inX7 : ∀ w ∈ u_ws RX7 TX7 14, w ∈ wsX7_flush := by decide +kernel
  have kX7_7 := hts (.fieldLink RX7 7 "TraceCacheModel" "s" "[I") (by decide +kernel)
  have kX7_32 := hts (.fieldLink RX7 32 "TraceCacheModel" "thrown" "I") (by decide +kernel)
  have J16 : ∀ (n16 : Nat), ∀ (S_thrown : Int32) (S_s : Nat → Int32) (S_saved : Nat → Int32) (S_savedMany : Int32) (x1 : Int32) (x2 : Int32) (H : Heap) (locs : List Loc) (ls : Array Slot), m_X7_flush_16 n16 S_thrown S_s S_saved S_savedMany x1 x2 = some y → va_P D vwCl (wX7 cI cZ cII aS S_thrown S_s S_aside S_saved S_savedMany S_text S_length S_fetched S_predicted S_fetchedMany S_fetchedWay S_spot S_isWrong S_executedByText ++ []) H → va_D A (wX7 cI cZ cII aS S_thrown S_s S_aside S_saved S_savedMany S_text S_length S_fetched S_predicted S_fetchedMany S_fetchedWay S_spot S_isWrong S_executedByText ++ []) → va_S A s.heap H locs → lv_has ls 3 [(0, .ref (aS 0)), (1, .int x1), (2, .int x2)] → W p l e ({ frames := 2, cells := 0, slots := 0, locals := 43 } : Room) s m args below meth c H locs 0 0 Q (F0 m 16 ls []) := by
    intro n16
    induction n16 with
    | zero =>
      intro S_thrown S_s S_saved S_savedMany x1 x2 H locs ls hf hP hD hS hl
      rw [m_X7_flush_16] at hf
      cases hf
    | succ n16 ih16 =>
      intro S_thrown S_s S_saved S_savedMany x1 x2 H locs ls hf hP hD hS hl
      rw [m_X7_flush_16] at hf
      refine lv_iload_n hx hb dX7_flush_16 rfl (lv_at hl 2 rfl) ?_
      refine lv_bipush (v := 8) hx hb dX7_flush_17 (by decide) ?_
      refine lv_icmp_ge (tgt := 33) hx hb dX7_flush_19 (by decide) (fun c19 => ?_) (fun c19 => ?_)
      · have hf := if_t c19 hf
        refine lv_aload_n hx hb dX7_flush_33 rfl (lv_at hl 0 rfl) ?_
        refine va_get (D := D) (ci := 7) (v := .ref (aS 1)) (C := RX7) (T := TX7) (N := 14) hx hb hts inX7 hown hK hP 0 rfl rfl 1 (by decide) kX7_7 (fun _ h9 => h9) rfl dX7_flush_34 ?_
        refine lv_sipush (v := 369) hx hb dX7_flush_37 (by decide) ?_
        refine lv_iconst (v := 0) hx hb dX7_flush_40 (by decide) ?_
        obtain ⟨g41, hf⟩ := gd_t hf
        refine va_iast hx hb hK hP hD hS 1 0 rfl rfl (inb_t g41) dX7_flush_41 (fun H locs hP hD hS => ?_)
        obtain ⟨S_s_41, eS_s_41⟩ : ∃ z : Nat → Int32, z = upd S_s (Int32.toNatClampNeg (369 : Int32)) (0 : Int32) := ⟨_, rfl⟩
        have hf := bd_t eS_s_41 hf
        have hP : va_P D vwCl (wX7 cI cZ cII aS S_thrown S_s_41 S_aside S_saved S_savedMany S_text S_length S_fetched S_predicted S_fetchedMany S_fetchedWay S_spot S_isWrong S_executedByText ++ []) H := by rw [eS_s_41]; exact hP
        have hD : va_D A (wX7 cI cZ cII aS S_thrown S_s_41 S_aside S_saved S_savedMany S_text S_length S_fetched S_predicted S_fetchedMany S_fetchedWay S_spot S_isWrong S_executedByText ++ []) := by rw [eS_s_41]; exact hD
        refine lv_iload_n hx hb dX7_flush_42 rfl (lv_at hl 1 rfl) ?_
        obtain rfl := Option.some.inj hf
        exact hret _ _ _ _ _ dX7_flush_43 rfl hP hD hS
      · have hf := if_f c19 hf
        refine lv_aload_n hx hb dX7_flush_22 rfl (lv_at hl 0 rfl) ?_
        refine lv_iload_n hx hb dX7_flush_23 rfl (lv_at hl 2 rfl) ?_
        obtain ⟨y24, h24, hf⟩ := bn_t hf
        refine z_av (x := []) (b := wX7 cI cZ cII aS S_thrown S_s S_aside S_saved S_savedMany S_text S_length S_fetched S_predicted S_fetchedMany S_fetchedWay S_spot S_isWrong S_executedByText ++ []) (y := ([] : va_W)) (b1 := wX7 cI cZ cII aS S_thrown y24 S_aside S_saved S_savedMany S_text S_length S_fetched S_predicted S_fetchedMany S_fetchedWay S_spot S_isWrong S_executedByText ++ []) (wsn := wX7 cI cZ cII aS S_thrown y24 S_aside S_saved S_savedMany S_text S_length S_fetched S_predicted S_fetchedMany S_fetchedWay S_spot S_isWrong S_executedByText ++ []) (va_runV (As := [.int x2]) (rest := []) ⟨hx, hb, hml, hown, hts⟩ (c_X7_empties l D cI cZ cII cJ cM aS S_thrown S_s S_aside S_saved S_savedMany S_text S_length S_fetched S_predicted S_fetchedMany S_fetchedWay S_spot S_isWrong S_executedByText x2 H.size y24 h24) (cwV 1 hts gX7_flush_X7_empties rfl rfl rfl (by decide +kernel) ⟨Nat.le_of_ble_eq_true rfl, Nat.le_of_ble_eq_true rfl⟩) (pz_V (x := []) (b := wX7 cI cZ cII aS S_thrown S_s S_aside S_saved S_savedMany S_text S_length S_fetched S_predicted S_fetchedMany S_fetchedWay S_spot S_isWrong S_executedByText ++ []) (y := ([] : va_W)) (C := RX7) (T := TX7) (N := 14) (ci := 7) (As := [.int x2]) (bi := 0) hK hN hP hD (by simp only [List.append_assoc, List.nil_append, List.append_nil]) rfl rfl) rfl rfl hl.1 rfl (lv_room (Nat.le_of_ble_eq_true rfl)) dX7_flush_24 ⟨Nat.le_of_ble_eq_true rfl, Nat.le_of_ble_eq_true rfl⟩) hP hD hS hA (by simp only [List.append_assoc, List.nil_append, List.append_nil]) (by simp only [List.append_assoc, List.nil_append, List.append_nil]) (fun H locs hP hD hS => ?_)
        obtain ⟨v27, ev27⟩ : ∃ z : Int32, z = x2 + (1 : Int32) := ⟨_, rfl⟩
        have hf := bd_t ev27 hf
        refine lv_iinc (v := v27) (lv' := [(2, .int v27), (0, .ref (aS 0)), (1, .int x1)]) hx hb dX7_flush_27 hl (k := 2) rfl (by rw [ev27]; rfl) (by decide) rfl (fun ls hl => ?_)
        refine lv_goto (tgt := 16) hx hb dX7_flush_30 (by decide) ?_
        exact ih16 S_thrown y24 S_saved S_savedMany x1 v27 _ _ _ hf hP hD hS (lv_sub hl [1, 2, 0] rfl)
  unfold m_X7_flush at hf
  refine lv_aload_n hx hb dX7_flush_0 rfl (lv_at hl 0 rfl) ?_
  refine lv_iconst (v := 0) hx hb dX7_flush_1 (by decide) ?_
  refine va_put (D := D) (ci := 7) (v := .int (0 : Int32)) (ty := .int) (C := RX7) (T := TX7) (N := 14) hx hb hts inX7 tyX7 tyX7_ok nmX7 hown hK hP hD hS 0 rfl rfl 0 (by decide) kX7_32 (fun _ h9 => h9) rfl (by decide +kernel) rfl rfl (Nat.le_of_ble_eq_true rfl) dX7_flush_2 (fun H locs hP hD hS => ?_)
  have hP : va_P D vwCl (wX7 cI cZ cII aS (0 : Int32) S_s S_aside S_saved S_savedMany S_text S_length S_fetched S_predicted S_fetchedMany S_fetchedWay S_spot S_isWrong S_executedByText ++ []) H := hP
  have hD : va_D A (wX7 cI cZ cII aS (0 : Int32) S_s S_aside S_saved S_savedMany S_text S_length S_fetched S_predicted S_fetchedMany S_fetchedWay S_spot S_isWrong S_executedByText ++ []) := hD
  refine lv_aload_n hx hb dX7_flush_5 rfl (lv_at hl 0 rfl) ?_
  obtain ⟨y6, h6, hf⟩ := bn_t hf
  refine z_av (x := []) (b := wX7 cI cZ cII aS (0 : Int32) S_s S_aside S_saved S_savedMany S_text S_length S_fetched S_predicted S_fetchedMany S_fetchedWay S_spot S_isWrong S_executedByText ++ []) (y := ([] : va_W)) (b1 := wX7 cI cZ cII aS (0 : Int32) S_s S_aside y6.1 y6.2 S_text S_length S_fetched S_predicted S_fetchedMany S_fetchedWay S_spot S_isWrong S_executedByText ++ []) (wsn := wX7 cI cZ cII aS (0 : Int32) S_s S_aside y6.1 y6.2 S_text S_length S_fetched S_predicted S_fetchedMany S_fetchedWay S_spot S_isWrong S_executedByText ++ []) (va_runV (As := []) (rest := []) ⟨hx, hb, hml, hown, hts⟩ (c_X7_save l D cI cZ cII cJ cM aS (0 : Int32) S_s S_aside S_saved S_savedMany S_text S_length S_fetched S_predicted S_fetchedMany S_fetchedWay S_spot S_isWrong S_executedByText H.size y6 h6) (cwV 0 hts gX7_flush_X7_save rfl rfl rfl (by decide +kernel) ⟨Nat.le_of_ble_eq_true rfl, Nat.le_of_ble_eq_true rfl⟩) (pz_V (x := []) (b := wX7 cI cZ cII aS (0 : Int32) S_s S_aside S_saved S_savedMany S_text S_length S_fetched S_predicted S_fetchedMany S_fetchedWay S_spot S_isWrong S_executedByText ++ []) (y := ([] : va_W)) (C := RX7) (T := TX7) (N := 14) (ci := 7) (As := []) (bi := 0) hK hN hP hD (by simp only [List.append_assoc, List.nil_append, List.append_nil]) rfl rfl) rfl rfl hl.1 rfl (lv_room (Nat.le_of_ble_eq_true rfl)) dX7_flush_6 ⟨Nat.le_of_ble_eq_true rfl, Nat.le_of_ble_eq_true rfl⟩) hP hD hS hA (by simp only [List.append_assoc, List.nil_append, List.append_nil]) (by simp only [List.append_assoc, List.nil_append, List.append_nil]) (fun H locs hP hD hS => ?_)
  refine lv_aload_n hx hb dX7_flush_9 rfl (lv_at hl 0 rfl) ?_
  obtain ⟨y10, h10, hf⟩ := bn_t hf
  refine z_ai (x := []) (b := wX7 cI cZ cII aS (0 : Int32) S_s S_aside y6.1 y6.2 S_text S_length S_fetched S_predicted S_fetchedMany S_fetchedWay S_spot S_isWrong S_executedByText ++ []) (y := ([] : va_W)) (b1 := wX7 cI cZ cII aS (0 : Int32) S_s S_aside y6.1 y6.2 S_text S_length S_fetched S_predicted S_fetchedMany S_fetchedWay S_spot S_isWrong S_executedByText ++ []) (wsn := wX7 cI cZ cII aS (0 : Int32) S_s S_aside y6.1 y6.2 S_text S_length S_fetched S_predicted S_fetchedMany S_fetchedWay S_spot S_isWrong S_executedByText ++ []) (va_runV (As := []) (rest := []) ⟨hx, hb, hml, hown, hts⟩ (c_X7_linesNow l D cI cZ cII cJ cM aS (0 : Int32) S_s S_aside y6.1 y6.2 S_text S_length S_fetched S_predicted S_fetchedMany S_fetchedWay S_spot S_isWrong S_executedByText H.size y10 h10) (cwV 0 hts gX7_flush_X7_linesNow rfl rfl rfl (by decide +kernel) ⟨Nat.le_of_ble_eq_true rfl, Nat.le_of_ble_eq_true rfl⟩) (pz_V (x := []) (b := wX7 cI cZ cII aS (0 : Int32) S_s S_aside y6.1 y6.2 S_text S_length S_fetched S_predicted S_fetchedMany S_fetchedWay S_spot S_isWrong S_executedByText ++ []) (y := ([] : va_W)) (C := RX7) (T := TX7) (N := 14) (ci := 7) (As := []) (bi := 0) hK hN hP hD (by simp only [List.append_assoc, List.nil_append, List.append_nil]) rfl rfl) rfl rfl hl.1 rfl (lv_room (Nat.le_of_ble_eq_true rfl)) dX7_flush_10 ⟨Nat.le_of_ble_eq_true rfl, Nat.le_of_ble_eq_true rfl⟩) hP hD hS hA (by simp only [List.append_assoc, List.nil_append, List.append_nil]) (by simp only [List.append_assoc, List.nil_append, List.append_nil]) (fun H locs hP hD hS => ?_)
  refine lv_istore_n (lv' := [(1, .int y10), (0, .ref (aS 0))]) hx hb dX7_flush_13 rfl hl (by decide) rfl (fun ls hl => ?_)
  refine lv_iconst (v := 0) hx hb dX7_flush_14 (by decide) ?_
  refine lv_istore_n (lv' := [(2, .int (0 : Int32)), (1, .int y10), (0, .ref (aS 0))]) hx hb dX7_flush_15 rfl hl (by decide) rfl (fun ls hl => ?_)
  exact J16 4000 (0 : Int32) S_s y6.1 y6.2 y10 (0 : Int32) _ _ _ hf hP hD hS (lv_sub hl [2, 1, 0] rfl)
set_option maxHeartbeats 8000000 in
set_option maxRecDepth 100000 in
theorem c_X7_appendText (l : Launch) (D : va_G) (cI cZ cII cJ cM : ClassId) (aS : Nat → Nat) (S_thrown : Int32) (S_s : Nat → Int32) (S_aside : Nat → Int32) (S_saved : Nat → Int32) (S_savedMany : Int32) (S_text : Nat → Int32) (S_length : Int32) (S_fetched : Nat → Int32) (S_predicted : Nat → Int32) (S_fetchedMany : Int32) (S_fetchedWay : Int32) (S_spot : Int32) (S_isWrong : Int32) (S_executedByText : Int32) (x1 : Int32) (sz : Nat) (y : (Int32) × (Int32) × (Nat → Int32) × (Int32)) (hf : m_X7_appendText S_thrown S_text S_length x1 = some y) : Met l yX7_appendText wsX7_appendText ({ frames := 1, cells := 0, slots := 0, locals := 22 } : Room) (va_Pc [.ref (aS 0), .int x1] (pzPre D (zT cI cZ cII cJ cM) (wX7 cI cZ cII aS S_thrown S_s S_aside S_saved S_savedMany S_text S_length S_fetched S_predicted S_fetchedMany S_fetchedWay S_spot S_isWrong S_executedByText ++ []) sz)) (va_Qi (fun v (_ : Unit) => v = y.1) (fun _ t => pzB D (zT cI cZ cII cJ cM) (va_A (wX7 cI cZ cII aS S_thrown S_s S_aside S_saved S_savedMany S_text S_length S_fetched S_predicted S_fetchedMany S_fetchedWay S_spot S_isWrong S_executedByText ++ []) sz) (wX7 cI cZ cII aS y.2.1 S_s S_aside S_saved S_savedMany y.2.2.1 y.2.2.2 S_fetched S_predicted S_fetchedMany S_fetchedWay S_spot S_isWrong S_executedByText ++ []) t) (va_A (wX7 cI cZ cII aS S_thrown S_s S_aside S_saved S_savedMany S_text S_length S_fetched S_predicted S_fetchedMany S_fetchedWay S_spot S_isWrong S_executedByText ++ []) sz)) 0 0 (va_A (wX7 cI cZ cII aS S_thrown S_s S_aside S_saved S_savedMany S_text S_length S_fetched S_predicted S_fetchedMany S_fetchedWay S_spot S_isWrong S_executedByText ++ []) sz) := by
  refine z_meti (cc := cX7_appendText) (maxL := 2) (by decide) rfl (Nat.le_of_ble_eq_true rfl) ?_
  intro p e s m args below meth c A ls Q H locs F hP hD hS hl hret
  obtain ⟨hx, hb, hml, hown, hts, hN, hK, hA⟩ := F
  have hown : s.vm.findClass RX7 = some m.cls := hown
  have hl : lv_has ls 2 [(0, .ref (aS 0)), (1, .int x1)] := hl
  have inX7 : ∀ w ∈ u_ws RX7 TX7 14, w ∈ wsX7_appendText := by decide +kernel
  have kX7_19 := hts (.fieldLink RX7 19 "TraceCacheModel" "text" "[I") (by decide +kernel)
  have kX7_135 := hts (.fieldLink RX7 135 "TraceCacheModel" "length" "I") (by decide +kernel)
  have J30 : ∀ (S_thrown : Int32) (S_text : Nat → Int32) (S_length : Int32) (k1 : Int32) (H : Heap) (locs : List Loc) (ls : Array Slot), m_X7_appendText_30 x1 S_thrown S_text S_length k1 = some y → va_P D vwCl (wX7 cI cZ cII aS S_thrown S_s S_aside S_saved S_savedMany S_text S_length S_fetched S_predicted S_fetchedMany S_fetchedWay S_spot S_isWrong S_executedByText ++ []) H → va_D A (wX7 cI cZ cII aS S_thrown S_s S_aside S_saved S_savedMany S_text S_length S_fetched S_predicted S_fetchedMany S_fetchedWay S_spot S_isWrong S_executedByText ++ []) → va_S A s.heap H locs → lv_has ls 2 [(0, .ref (aS 0)), (1, .int x1)] → W p l e ({ frames := 1, cells := 0, slots := 0, locals := 22 } : Room) s m args below meth c H locs 0 0 Q (F0 m 30 ls [.int k1, .ref (aS 0)]) := by
    intro S_thrown S_text S_length k1 H locs ls hf hP hD hS hl
    unfold m_X7_appendText_30 at hf
    obtain ⟨y30, h30, hf⟩ := bn_t hf
    refine z_ai (x := []) (b := wX7 cI cZ cII aS S_thrown S_s S_aside S_saved S_savedMany S_text S_length S_fetched S_predicted S_fetchedMany S_fetchedWay S_spot S_isWrong S_executedByText ++ []) (y := ([] : va_W)) (b1 := wX7 cI cZ cII aS y30.2 S_s S_aside S_saved S_savedMany S_text S_length S_fetched S_predicted S_fetchedMany S_fetchedWay S_spot S_isWrong S_executedByText ++ []) (wsn := wX7 cI cZ cII aS y30.2 S_s S_aside S_saved S_savedMany S_text S_length S_fetched S_predicted S_fetchedMany S_fetchedWay S_spot S_isWrong S_executedByText ++ []) (va_runV (As := [.int k1]) (rest := []) ⟨hx, hb, hml, hown, hts⟩ (c_X7_holds l D cI cZ cII cJ cM aS S_thrown S_s S_aside S_saved S_savedMany S_text S_length S_fetched S_predicted S_fetchedMany S_fetchedWay S_spot S_isWrong S_executedByText k1 H.size y30 h30) (cwV 1 hts gX7_appendText_X7_holds rfl rfl rfl (by decide +kernel) ⟨Nat.le_of_ble_eq_true rfl, Nat.le_of_ble_eq_true rfl⟩) (pz_V (x := []) (b := wX7 cI cZ cII aS S_thrown S_s S_aside S_saved S_savedMany S_text S_length S_fetched S_predicted S_fetchedMany S_fetchedWay S_spot S_isWrong S_executedByText ++ []) (y := ([] : va_W)) (C := RX7) (T := TX7) (N := 14) (ci := 7) (As := [.int k1]) (bi := 0) hK hN hP hD (by simp only [List.append_assoc, List.nil_append, List.append_nil]) rfl rfl) rfl rfl hl.1 rfl (lv_room (Nat.le_of_ble_eq_true rfl)) dX7_appendText_30 ⟨Nat.le_of_ble_eq_true rfl, Nat.le_of_ble_eq_true rfl⟩) hP hD hS hA (by simp only [List.append_assoc, List.nil_append, List.append_nil]) (by simp only [List.append_assoc, List.nil_append, List.append_nil]) (fun H locs hP hD hS => ?_)
    refine lv_if_ne (tgt := 38) hx hb dX7_appendText_33 (by decide) (fun c33 => ?_) (fun c33 => ?_)
    · have hf := if_f c33 hf
      refine lv_aload_n hx hb dX7_appendText_38 rfl (lv_at hl 0 rfl) ?_
      refine va_get (D := D) (ci := 7) (v := .ref (aS 4)) (C := RX7) (T := TX7) (N := 14) hx hb hts inX7 hown hK hP 0 rfl rfl 5 (by decide) kX7_19 (fun _ h9 => h9) rfl dX7_appendText_39 ?_
      refine lv_aload_n hx hb dX7_appendText_42 rfl (lv_at hl 0 rfl) ?_
      refine va_get (D := D) (ci := 7) (v := .int S_length) (C := RX7) (T := TX7) (N := 14) hx hb hts inX7 hown hK hP 0 rfl rfl 6 (by decide) kX7_135 (fun _ h9 => h9) rfl dX7_appendText_43 ?_
      refine lv_iload_n hx hb dX7_appendText_46 rfl (lv_at hl 1 rfl) ?_
      obtain ⟨g47, hf⟩ := gd_t hf
      refine va_iast hx hb hK hP hD hS 4 0 rfl rfl (inb_t g47) dX7_appendText_47 (fun H locs hP hD hS => ?_)
      obtain ⟨S_text_47, eS_text_47⟩ : ∃ z : Nat → Int32, z = upd S_text (Int32.toNatClampNeg S_length) x1 := ⟨_, rfl⟩
      have hf := bd_t eS_text_47 hf
      have hP : va_P D vwCl (wX7 cI cZ cII aS y30.2 S_s S_aside S_saved S_savedMany S_text_47 S_length S_fetched S_predicted S_fetchedMany S_fetchedWay S_spot S_isWrong S_executedByText ++ []) H := by rw [eS_text_47]; exact hP
      have hD : va_D A (wX7 cI cZ cII aS y30.2 S_s S_aside S_saved S_savedMany S_text_47 S_length S_fetched S_predicted S_fetchedMany S_fetchedWay S_spot S_isWrong S_executedByText ++ []) := by rw [eS_text_47]; exact hD
      refine lv_aload_n hx hb dX7_appendText_48 rfl (lv_at hl 0 rfl) ?_
      refine lv_dup hx hb dX7_appendText_49 rfl ?_
      refine va_get (D := D) (ci := 7) (v := .int S_length) (C := RX7) (T := TX7) (N := 14) hx hb hts inX7 hown hK hP 0 rfl rfl 6 (by decide) kX7_135 (fun _ h9 => h9) rfl dX7_appendText_50 ?_
      refine lv_iconst (v := 1) hx hb dX7_appendText_53 (by decide) ?_
      refine lv_iadd hx hb dX7_appendText_54 ?_
      refine lv_topi (fun v55 ev55 => ?_)
      have hf := bd_t ev55 hf
      refine va_put (D := D) (ci := 7) (v := .int v55) (ty := .int) (C := RX7) (T := TX7) (N := 14) hx hb hts inX7 tyX7 tyX7_ok nmX7 hown hK hP hD hS 0 rfl rfl 6 (by decide) kX7_135 (fun _ h9 => h9) rfl (by decide +kernel) rfl rfl (Nat.le_of_ble_eq_true rfl) dX7_appendText_55 (fun H locs hP hD hS => ?_)
      have hP : va_P D vwCl (wX7 cI cZ cII aS y30.2 S_s S_aside S_saved S_savedMany S_text_47 v55 S_fetched S_predicted S_fetchedMany S_fetchedWay S_spot S_isWrong S_executedByText ++ []) H := hP
      have hD : va_D A (wX7 cI cZ cII aS y30.2 S_s S_aside S_saved S_savedMany S_text_47 v55 S_fetched S_predicted S_fetchedMany S_fetchedWay S_spot S_isWrong S_executedByText ++ []) := hD
      refine lv_aload_n hx hb dX7_appendText_58 rfl (lv_at hl 0 rfl) ?_
      refine va_get (D := D) (ci := 7) (v := .int v55) (C := RX7) (T := TX7) (N := 14) hx hb hts inX7 hown hK hP 0 rfl rfl 6 (by decide) kX7_135 (fun _ h9 => h9) rfl dX7_appendText_59 ?_
      obtain rfl := Option.some.inj hf
      exact hret _ _ _ _ _ dX7_appendText_62 rfl hP hD hS
    · have hf := if_t c33 hf
      refine lv_iconst (v := 0) hx hb dX7_appendText_36 (by decide) ?_
      obtain rfl := Option.some.inj hf
      exact hret _ _ _ _ _ dX7_appendText_37 rfl hP hD hS
  unfold m_X7_appendText at hf
  refine lv_aload_n hx hb dX7_appendText_0 rfl (lv_at hl 0 rfl) ?_
  refine lv_iload_n hx hb dX7_appendText_1 rfl (lv_at hl 1 rfl) ?_
  refine lv_bipush (v := 32) hx hb dX7_appendText_2 (by decide) ?_
  refine lv_bipush (v := 126) hx hb dX7_appendText_4 (by decide) ?_
  obtain ⟨y6, h6, hf⟩ := bn_t hf
  refine z_ai (x := []) (b := ([] : va_W)) (y := wX7 cI cZ cII aS S_thrown S_s S_aside S_saved S_savedMany S_text S_length S_fetched S_predicted S_fetchedMany S_fetchedWay S_spot S_isWrong S_executedByText ++ []) (b1 := ([] : va_W)) (wsn := wX7 cI cZ cII aS S_thrown S_s S_aside S_saved S_savedMany S_text S_length S_fetched S_predicted S_fetchedMany S_fetchedWay S_spot S_isWrong S_executedByText ++ []) (va_runS (As := [.int x1, .int (32 : Int32), .int (126 : Int32)]) (rest := [.ref (aS 0)]) ⟨hx, hb, hml, hown, hts⟩ (c_X7_in l D cI cZ cII cJ cM x1 (32 : Int32) (126 : Int32) H.size y6 h6) (va_cwS 3 hts gX7_appendText_X7_in rfl rfl rfl (by decide +kernel) ⟨Nat.le_of_ble_eq_true rfl, Nat.le_of_ble_eq_true rfl⟩) (pz_S (x := []) (b := ([] : va_W)) (y := wX7 cI cZ cII aS S_thrown S_s S_aside S_saved S_savedMany S_text S_length S_fetched S_predicted S_fetchedMany S_fetchedWay S_spot S_isWrong S_executedByText ++ []) hK hN hP hD (by simp only [List.append_assoc, List.nil_append, List.append_nil])) rfl rfl hl.1 rfl (lv_room (Nat.le_of_ble_eq_true rfl)) dX7_appendText_6 ⟨Nat.le_of_ble_eq_true rfl, Nat.le_of_ble_eq_true rfl⟩) hP hD hS hA (by simp only [List.append_assoc, List.nil_append, List.append_nil]) (by simp only [List.append_assoc, List.nil_append, List.append_nil]) (fun H locs hP hD hS => ?_)
  refine lv_if_ne (tgt := 16) hx hb dX7_appendText_9 (by decide) (fun c9 => ?_) (fun c9 => ?_)
  · have hf := if_f c9 hf
    refine lv_aload_n hx hb dX7_appendText_16 rfl (lv_at hl 0 rfl) ?_
    refine va_get (D := D) (ci := 7) (v := .int S_length) (C := RX7) (T := TX7) (N := 14) hx hb hts inX7 hown hK hP 0 rfl rfl 6 (by decide) kX7_135 (fun _ h9 => h9) rfl dX7_appendText_17 ?_
    refine lv_bipush (v := 80) hx hb dX7_appendText_20 (by decide) ?_
    refine lv_icmp_ne (tgt := 29) hx hb dX7_appendText_22 (by decide) (fun c22 => ?_) (fun c22 => ?_)
    · have hf := if_f c22 hf
      refine lv_iconst (v := 0) hx hb dX7_appendText_29 (by decide) ?_
      exact J30 S_thrown S_text S_length (0 : Int32) _ _ _ hf hP hD hS (lv_sub hl [0, 1] rfl)
    · have hf := if_t c22 hf
      refine lv_iconst (v := 2) hx hb dX7_appendText_25 (by decide) ?_
      refine lv_goto (tgt := 30) hx hb dX7_appendText_26 (by decide) ?_
      exact J30 S_thrown S_text S_length (2 : Int32) _ _ _ hf hP hD hS (lv_sub hl [0, 1] rfl)
  · have hf := if_t c9 hf
    refine lv_iconst (v := 1) hx hb dX7_appendText_12 (by decide) ?_
    refine lv_goto (tgt := 30) hx hb dX7_appendText_13 (by decide) ?_
    exact J30 S_thrown S_text S_length (1 : Int32) _ _ _ hf hP hD hS (lv_sub hl [0, 1] rfl)
set_option maxHeartbeats 8000000 in
set_option maxRecDepth 100000 in
theorem c_X7_clearText (l : Launch) (D : va_G) (cI cZ cII cJ cM : ClassId) (aS : Nat → Nat) (S_thrown : Int32) (S_s : Nat → Int32) (S_aside : Nat → Int32) (S_saved : Nat → Int32) (S_savedMany : Int32) (S_text : Nat → Int32) (S_length : Int32) (S_fetched : Nat → Int32) (S_predicted : Nat → Int32) (S_fetchedMany : Int32) (S_fetchedWay : Int32) (S_spot : Int32) (S_isWrong : Int32) (S_executedByText : Int32) (sz : Nat) (y : (Int32) × (Int32) × (Int32)) (hf : m_X7_clearText S_thrown S_length = some y) : Met l yX7_clearText wsX7_clearText ({ frames := 0, cells := 0, slots := 0, locals := 0 } : Room) (va_Pc [.ref (aS 0)] (pzPre D (zT cI cZ cII cJ cM) (wX7 cI cZ cII aS S_thrown S_s S_aside S_saved S_savedMany S_text S_length S_fetched S_predicted S_fetchedMany S_fetchedWay S_spot S_isWrong S_executedByText ++ []) sz)) (va_Qi (fun v (_ : Unit) => v = y.1) (fun _ t => pzB D (zT cI cZ cII cJ cM) (va_A (wX7 cI cZ cII aS S_thrown S_s S_aside S_saved S_savedMany S_text S_length S_fetched S_predicted S_fetchedMany S_fetchedWay S_spot S_isWrong S_executedByText ++ []) sz) (wX7 cI cZ cII aS y.2.1 S_s S_aside S_saved S_savedMany S_text y.2.2 S_fetched S_predicted S_fetchedMany S_fetchedWay S_spot S_isWrong S_executedByText ++ []) t) (va_A (wX7 cI cZ cII aS S_thrown S_s S_aside S_saved S_savedMany S_text S_length S_fetched S_predicted S_fetchedMany S_fetchedWay S_spot S_isWrong S_executedByText ++ []) sz)) 0 0 (va_A (wX7 cI cZ cII aS S_thrown S_s S_aside S_saved S_savedMany S_text S_length S_fetched S_predicted S_fetchedMany S_fetchedWay S_spot S_isWrong S_executedByText ++ []) sz) := by
  refine z_meti (cc := cX7_clearText) (maxL := 2) (by decide) rfl (Nat.le_of_ble_eq_true rfl) ?_
  intro p e s m args below meth c A ls Q H locs F hP hD hS hl hret
  obtain ⟨hx, hb, hml, hown, hts, hN, hK, hA⟩ := F
  have hown : s.vm.findClass RX7 = some m.cls := hown
  have hl : lv_has ls 2 [(0, .ref (aS 0))] := hl
  have inX7 : ∀ w ∈ u_ws RX7 TX7 14, w ∈ wsX7_clearText := by decide +kernel
  have kX7_32 := hts (.fieldLink RX7 32 "TraceCacheModel" "thrown" "I") (by decide +kernel)
  have kX7_135 := hts (.fieldLink RX7 135 "TraceCacheModel" "length" "I") (by decide +kernel)
  unfold m_X7_clearText at hf
  refine lv_aload_n hx hb dX7_clearText_0 rfl (lv_at hl 0 rfl) ?_
  refine lv_iconst (v := 0) hx hb dX7_clearText_1 (by decide) ?_
  refine va_put (D := D) (ci := 7) (v := .int (0 : Int32)) (ty := .int) (C := RX7) (T := TX7) (N := 14) hx hb hts inX7 tyX7 tyX7_ok nmX7 hown hK hP hD hS 0 rfl rfl 0 (by decide) kX7_32 (fun _ h9 => h9) rfl (by decide +kernel) rfl rfl (Nat.le_of_ble_eq_true rfl) dX7_clearText_2 (fun H locs hP hD hS => ?_)
  have hP : va_P D vwCl (wX7 cI cZ cII aS (0 : Int32) S_s S_aside S_saved S_savedMany S_text S_length S_fetched S_predicted S_fetchedMany S_fetchedWay S_spot S_isWrong S_executedByText ++ []) H := hP
  have hD : va_D A (wX7 cI cZ cII aS (0 : Int32) S_s S_aside S_saved S_savedMany S_text S_length S_fetched S_predicted S_fetchedMany S_fetchedWay S_spot S_isWrong S_executedByText ++ []) := hD
  refine lv_aload_n hx hb dX7_clearText_5 rfl (lv_at hl 0 rfl) ?_
  refine va_get (D := D) (ci := 7) (v := .int S_length) (C := RX7) (T := TX7) (N := 14) hx hb hts inX7 hown hK hP 0 rfl rfl 6 (by decide) kX7_135 (fun _ h9 => h9) rfl dX7_clearText_6 ?_
  refine lv_istore_n (lv' := [(1, .int S_length), (0, .ref (aS 0))]) hx hb dX7_clearText_9 rfl hl (by decide) rfl (fun ls hl => ?_)
  refine lv_aload_n hx hb dX7_clearText_10 rfl (lv_at hl 1 rfl) ?_
  refine lv_iconst (v := 0) hx hb dX7_clearText_11 (by decide) ?_
  refine va_put (D := D) (ci := 7) (v := .int (0 : Int32)) (ty := .int) (C := RX7) (T := TX7) (N := 14) hx hb hts inX7 tyX7 tyX7_ok nmX7 hown hK hP hD hS 0 rfl rfl 6 (by decide) kX7_135 (fun _ h9 => h9) rfl (by decide +kernel) rfl rfl (Nat.le_of_ble_eq_true rfl) dX7_clearText_12 (fun H locs hP hD hS => ?_)
  have hP : va_P D vwCl (wX7 cI cZ cII aS (0 : Int32) S_s S_aside S_saved S_savedMany S_text (0 : Int32) S_fetched S_predicted S_fetchedMany S_fetchedWay S_spot S_isWrong S_executedByText ++ []) H := hP
  have hD : va_D A (wX7 cI cZ cII aS (0 : Int32) S_s S_aside S_saved S_savedMany S_text (0 : Int32) S_fetched S_predicted S_fetchedMany S_fetchedWay S_spot S_isWrong S_executedByText ++ []) := hD
  refine lv_iload_n hx hb dX7_clearText_15 rfl (lv_at hl 0 rfl) ?_
  obtain rfl := Option.some.inj hf
  exact hret _ _ _ _ _ dX7_clearText_16 rfl hP hD hS
set_option maxHeartbeats 8000000 in
set_option maxRecDepth 100000 in
theorem c_X7_isNext (l : Launch) (D : va_G) (cI cZ cII cJ cM : ClassId) (aS : Nat → Nat) (S_thrown : Int32) (S_s : Nat → Int32) (S_aside : Nat → Int32) (S_saved : Nat → Int32) (S_savedMany : Int32) (S_text : Nat → Int32) (S_length : Int32) (S_fetched : Nat → Int32) (S_predicted : Nat → Int32) (S_fetchedMany : Int32) (S_fetchedWay : Int32) (S_spot : Int32) (S_isWrong : Int32) (S_executedByText : Int32) (x1 : Int32) (x2 : Int32) (sz : Nat) (y : (Int32)) (hf : m_X7_isNext S_text S_length S_spot S_isWrong x1 x2 = some y) : Met l yX7_isNext wsX7_isNext ({ frames := 1, cells := 0, slots := 0, locals := 22 } : Room) (va_Pc [.ref (aS 0), .int x1, .int x2] (pzPre D (zT cI cZ cII cJ cM) (wX7 cI cZ cII aS S_thrown S_s S_aside S_saved S_savedMany S_text S_length S_fetched S_predicted S_fetchedMany S_fetchedWay S_spot S_isWrong S_executedByText ++ []) sz)) (va_Qi (fun v (_ : Unit) => v = y) (fun _ t => pzB D (zT cI cZ cII cJ cM) (va_A (wX7 cI cZ cII aS S_thrown S_s S_aside S_saved S_savedMany S_text S_length S_fetched S_predicted S_fetchedMany S_fetchedWay S_spot S_isWrong S_executedByText ++ []) sz) (wX7 cI cZ cII aS S_thrown S_s S_aside S_saved S_savedMany S_text S_length S_fetched S_predicted S_fetchedMany S_fetchedWay S_spot S_isWrong S_executedByText ++ []) t) (va_A (wX7 cI cZ cII aS S_thrown S_s S_aside S_saved S_savedMany S_text S_length S_fetched S_predicted S_fetchedMany S_fetchedWay S_spot S_isWrong S_executedByText ++ []) sz)) 0 0 (va_A (wX7 cI cZ cII aS S_thrown S_s S_aside S_saved S_savedMany S_text S_length S_fetched S_predicted S_fetchedMany S_fetchedWay S_spot S_isWrong S_executedByText ++ []) sz) := by
  refine z_metz (cc := cX7_isNext) (maxL := 3) (by decide) rfl (Nat.le_of_ble_eq_true rfl) ?_
  intro p e s m args below meth c A ls Q H locs F hP hD hS hl hret
  obtain ⟨hx, hb, hml, hown, hts, hN, hK, hA⟩ := F
  have hown : s.vm.findClass RX7 = some m.cls := hown
  have hl : lv_has ls 3 [(0, .ref (aS 0)), (1, .int x1), (2, .int x2)] := hl
  have inX7 : ∀ w ∈ u_ws RX7 TX7 14, w ∈ wsX7_isNext := by decide +kernel
  have kX7_19 := hts (.fieldLink RX7 19 "TraceCacheModel" "text" "[I") (by decide +kernel)
  have kX7_135 := hts (.fieldLink RX7 135 "TraceCacheModel" "length" "I") (by decide +kernel)
  have kX7_138 := hts (.fieldLink RX7 138 "TraceCacheModel" "isWrong" "Z") (by decide +kernel)
  have kX7_142 := hts (.fieldLink RX7 142 "TraceCacheModel" "spot" "I") (by decide +kernel)
  have J40 : ∀ (k0 : Int32) (H : Heap) (locs : List Loc) (ls : Array Slot), m_X7_isNext_40 S_text S_length S_spot S_isWrong x1 x2 k0 = some y → va_P D vwCl (wX7 cI cZ cII aS S_thrown S_s S_aside S_saved S_savedMany S_text S_length S_fetched S_predicted S_fetchedMany S_fetchedWay S_spot S_isWrong S_executedByText ++ []) H → va_D A (wX7 cI cZ cII aS S_thrown S_s S_aside S_saved S_savedMany S_text S_length S_fetched S_predicted S_fetchedMany S_fetchedWay S_spot S_isWrong S_executedByText ++ []) → va_S A s.heap H locs → lv_has ls 3 [] → W p l e ({ frames := 1, cells := 0, slots := 0, locals := 22 } : Room) s m args below meth c H locs 0 0 Q (F0 m 40 ls [.int k0]) := by
    intro k0 H locs ls hf hP hD hS hl
    unfold m_X7_isNext_40 at hf
    obtain ⟨g40, hf⟩ := gd_t hf
    obtain rfl := Option.some.inj hf
    exact hret _ _ _ _ _ dX7_isNext_40 g40 rfl hP hD hS
  have J39 : ∀ (H : Heap) (locs : List Loc) (ls : Array Slot), m_X7_isNext_39 S_text S_length S_spot S_isWrong x1 x2 = some y → va_P D vwCl (wX7 cI cZ cII aS S_thrown S_s S_aside S_saved S_savedMany S_text S_length S_fetched S_predicted S_fetchedMany S_fetchedWay S_spot S_isWrong S_executedByText ++ []) H → va_D A (wX7 cI cZ cII aS S_thrown S_s S_aside S_saved S_savedMany S_text S_length S_fetched S_predicted S_fetchedMany S_fetchedWay S_spot S_isWrong S_executedByText ++ []) → va_S A s.heap H locs → lv_has ls 3 [] → W p l e ({ frames := 1, cells := 0, slots := 0, locals := 22 } : Room) s m args below meth c H locs 0 0 Q (F0 m 39 ls []) := by
    intro  H locs ls hf hP hD hS hl
    unfold m_X7_isNext_39 at hf
    refine lv_iconst (v := 0) hx hb dX7_isNext_39 (by decide) ?_
    exact J40 (0 : Int32) _ _ _ hf hP hD hS (lv_sub hl [] rfl)
  unfold m_X7_isNext at hf
  refine lv_aload_n hx hb dX7_isNext_0 rfl (lv_at hl 0 rfl) ?_
  refine va_get (D := D) (ci := 7) (v := .int S_isWrong) (C := RX7) (T := TX7) (N := 14) hx hb hts inX7 hown hK hP 0 rfl rfl 12 (by decide) kX7_138 (fun _ h9 => h9) rfl dX7_isNext_1 ?_
  refine lv_if_ne (tgt := 39) hx hb dX7_isNext_4 (by decide) (fun c4 => ?_) (fun c4 => ?_)
  · have hf := if_f c4 hf
    exact J39  _ _ _ hf hP hD hS (lv_sub hl [] rfl)
  · have hf := if_t c4 hf
    refine lv_aload_n hx hb dX7_isNext_7 rfl (lv_at hl 0 rfl) ?_
    refine va_get (D := D) (ci := 7) (v := .int S_spot) (C := RX7) (T := TX7) (N := 14) hx hb hts inX7 hown hK hP 0 rfl rfl 11 (by decide) kX7_142 (fun _ h9 => h9) rfl dX7_isNext_8 ?_
    refine lv_aload_n hx hb dX7_isNext_11 rfl (lv_at hl 0 rfl) ?_
    refine va_get (D := D) (ci := 7) (v := .int S_length) (C := RX7) (T := TX7) (N := 14) hx hb hts inX7 hown hK hP 0 rfl rfl 6 (by decide) kX7_135 (fun _ h9 => h9) rfl dX7_isNext_12 ?_
    refine lv_icmp_ge (tgt := 39) hx hb dX7_isNext_15 (by decide) (fun c15 => ?_) (fun c15 => ?_)
    · have hf := if_t c15 hf
      exact J39  _ _ _ hf hP hD hS (lv_sub hl [] rfl)
    · have hf := if_f c15 hf
      refine lv_aload_n hx hb dX7_isNext_18 rfl (lv_at hl 0 rfl) ?_
      refine va_get (D := D) (ci := 7) (v := .ref (aS 4)) (C := RX7) (T := TX7) (N := 14) hx hb hts inX7 hown hK hP 0 rfl rfl 5 (by decide) kX7_19 (fun _ h9 => h9) rfl dX7_isNext_19 ?_
      refine lv_aload_n hx hb dX7_isNext_22 rfl (lv_at hl 0 rfl) ?_
      refine va_get (D := D) (ci := 7) (v := .int S_spot) (C := RX7) (T := TX7) (N := 14) hx hb hts inX7 hown hK hP 0 rfl rfl 11 (by decide) kX7_142 (fun _ h9 => h9) rfl dX7_isNext_23 ?_
      obtain ⟨g26, hf⟩ := gd_t hf
      refine va_iald hx hb hK hP 4 0 rfl rfl (inb_t g26) dX7_isNext_26 ?_
      refine lv_iload_n hx hb dX7_isNext_27 rfl (lv_at hl 1 rfl) ?_
      refine lv_iload_n hx hb dX7_isNext_28 rfl (lv_at hl 2 rfl) ?_
      obtain ⟨y29, h29, hf⟩ := bn_t hf
      refine z_ai (x := []) (b := ([] : va_W)) (y := wX7 cI cZ cII aS S_thrown S_s S_aside S_saved S_savedMany S_text S_length S_fetched S_predicted S_fetchedMany S_fetchedWay S_spot S_isWrong S_executedByText ++ []) (b1 := ([] : va_W)) (wsn := wX7 cI cZ cII aS S_thrown S_s S_aside S_saved S_savedMany S_text S_length S_fetched S_predicted S_fetchedMany S_fetchedWay S_spot S_isWrong S_executedByText ++ []) (va_runS (As := [.int (S_text (Int32.toNatClampNeg S_spot)), .int x1, .int x2]) (rest := []) ⟨hx, hb, hml, hown, hts⟩ (c_X7_in l D cI cZ cII cJ cM (S_text (Int32.toNatClampNeg S_spot)) x1 x2 H.size y29 h29) (va_cwS 3 hts gX7_isNext_X7_in rfl rfl rfl (by decide +kernel) ⟨Nat.le_of_ble_eq_true rfl, Nat.le_of_ble_eq_true rfl⟩) (pz_S (x := []) (b := ([] : va_W)) (y := wX7 cI cZ cII aS S_thrown S_s S_aside S_saved S_savedMany S_text S_length S_fetched S_predicted S_fetchedMany S_fetchedWay S_spot S_isWrong S_executedByText ++ []) hK hN hP hD (by simp only [List.append_assoc, List.nil_append, List.append_nil])) rfl rfl hl.1 rfl (lv_room (Nat.le_of_ble_eq_true rfl)) dX7_isNext_29 ⟨Nat.le_of_ble_eq_true rfl, Nat.le_of_ble_eq_true rfl⟩) hP hD hS hA (by simp only [List.append_assoc, List.nil_append, List.append_nil]) (by simp only [List.append_assoc, List.nil_append, List.append_nil]) (fun H locs hP hD hS => ?_)
      refine lv_if_eq (tgt := 39) hx hb dX7_isNext_32 (by decide) (fun c32 => ?_) (fun c32 => ?_)
      · have hf := if_t c32 hf
        exact J39  _ _ _ hf hP hD hS (lv_sub hl [] rfl)
      · have hf := if_f c32 hf
        refine lv_iconst (v := 1) hx hb dX7_isNext_35 (by decide) ?_
        refine lv_goto (tgt := 40) hx hb dX7_isNext_36 (by decide) ?_
        exact J40 (1 : Int32) _ _ _ hf hP hD hS (lv_sub hl [] rfl)
set_option maxHeartbeats 8000000 in
set_option maxRecDepth 100000 in
theorem c_X7_takes (l : Launch) (D : va_G) (cI cZ cII cJ cM : ClassId) (aS : Nat → Nat) (S_thrown : Int32) (S_s : Nat → Int32) (S_aside : Nat → Int32) (S_saved : Nat → Int32) (S_savedMany : Int32) (S_text : Nat → Int32) (S_length : Int32) (S_fetched : Nat → Int32) (S_predicted : Nat → Int32) (S_fetchedMany : Int32) (S_fetchedWay : Int32) (S_spot : Int32) (S_isWrong : Int32) (S_executedByText : Int32) (x1 : Int32) (x2 : Int32) (sz : Nat) (y : (Int32) × (Int32) × (Int32)) (hf : m_X7_takes S_text S_length S_spot S_isWrong x1 x2 = some y) : Met l yX7_takes wsX7_takes ({ frames := 2, cells := 0, slots := 0, locals := 44 } : Room) (va_Pc [.ref (aS 0), .int x1, .int x2] (pzPre D (zT cI cZ cII cJ cM) (wX7 cI cZ cII aS S_thrown S_s S_aside S_saved S_savedMany S_text S_length S_fetched S_predicted S_fetchedMany S_fetchedWay S_spot S_isWrong S_executedByText ++ []) sz)) (va_Qi (fun v (_ : Unit) => v = y.1) (fun _ t => pzB D (zT cI cZ cII cJ cM) (va_A (wX7 cI cZ cII aS S_thrown S_s S_aside S_saved S_savedMany S_text S_length S_fetched S_predicted S_fetchedMany S_fetchedWay S_spot S_isWrong S_executedByText ++ []) sz) (wX7 cI cZ cII aS S_thrown S_s S_aside S_saved S_savedMany S_text S_length S_fetched S_predicted S_fetchedMany S_fetchedWay y.2.1 y.2.2 S_executedByText ++ []) t) (va_A (wX7 cI cZ cII aS S_thrown S_s S_aside S_saved S_savedMany S_text S_length S_fetched S_predicted S_fetchedMany S_fetchedWay S_spot S_isWrong S_executedByText ++ []) sz)) 0 0 (va_A (wX7 cI cZ cII aS S_thrown S_s S_aside S_saved S_savedMany S_text S_length S_fetched S_predicted S_fetchedMany S_fetchedWay S_spot S_isWrong S_executedByText ++ []) sz) := by
  refine z_meti (cc := cX7_takes) (maxL := 5) (by decide) rfl (Nat.le_of_ble_eq_true rfl) ?_
  intro p e s m args below meth c A ls Q H locs F hP hD hS hl hret
  obtain ⟨hx, hb, hml, hown, hts, hN, hK, hA⟩ := F
  have hown : s.vm.findClass RX7 = some m.cls := hown
  have hl : lv_has ls 5 [(0, .ref (aS 0)), (1, .int x1), (2, .int x2)] := hl
  have inX7 : ∀ w ∈ u_ws RX7 TX7 14, w ∈ wsX7_takes := by decide +kernel
  have kX7_19 := hts (.fieldLink RX7 19 "TraceCacheModel" "text" "[I") (by decide +kernel)
  have kX7_138 := hts (.fieldLink RX7 138 "TraceCacheModel" "isWrong" "Z") (by decide +kernel)
  have kX7_142 := hts (.fieldLink RX7 142 "TraceCacheModel" "spot" "I") (by decide +kernel)
  have J63 : ∀ (S_spot : Int32) (S_isWrong : Int32) (x4 : Int32) (k1 : Int32) (H : Heap) (locs : List Loc) (ls : Array Slot), m_X7_takes_63 S_text S_length x1 x2 S_spot S_isWrong x4 k1 = some y → va_P D vwCl (wX7 cI cZ cII aS S_thrown S_s S_aside S_saved S_savedMany S_text S_length S_fetched S_predicted S_fetchedMany S_fetchedWay S_spot S_isWrong S_executedByText ++ []) H → va_D A (wX7 cI cZ cII aS S_thrown S_s S_aside S_saved S_savedMany S_text S_length S_fetched S_predicted S_fetchedMany S_fetchedWay S_spot S_isWrong S_executedByText ++ []) → va_S A s.heap H locs → lv_has ls 5 [(4, .int x4)] → W p l e ({ frames := 2, cells := 0, slots := 0, locals := 44 } : Room) s m args below meth c H locs 0 0 Q (F0 m 63 ls [.int k1, .ref (aS 0)]) := by
    intro S_spot S_isWrong x4 k1 H locs ls hf hP hD hS hl
    unfold m_X7_takes_63 at hf
    obtain ⟨g63, hf⟩ := gd_t hf
    refine va_put (D := D) (ci := 7) (v := .int k1) (ty := .boolean) (C := RX7) (T := TX7) (N := 14) hx hb hts inX7 tyX7 tyX7_ok nmX7 hown hK hP hD hS 0 rfl rfl 12 (by decide) kX7_138 (fun _ h9 => h9) rfl (by decide +kernel) (isb_t g63) (isb_f g63) (Nat.le_of_ble_eq_true rfl) dX7_takes_63 (fun H locs hP hD hS => ?_)
    have hP : va_P D vwCl (wX7 cI cZ cII aS S_thrown S_s S_aside S_saved S_savedMany S_text S_length S_fetched S_predicted S_fetchedMany S_fetchedWay S_spot k1 S_executedByText ++ []) H := hP
    have hD : va_D A (wX7 cI cZ cII aS S_thrown S_s S_aside S_saved S_savedMany S_text S_length S_fetched S_predicted S_fetchedMany S_fetchedWay S_spot k1 S_executedByText ++ []) := hD
    refine lv_iload hx hb dX7_takes_66 (lv_at hl 0 rfl) ?_
    obtain rfl := Option.some.inj hf
    exact hret _ _ _ _ _ dX7_takes_68 rfl hP hD hS
  have J58 : ∀ (S_spot : Int32) (S_isWrong : Int32) (x4 : Int32) (H : Heap) (locs : List Loc) (ls : Array Slot), m_X7_takes_58 S_text S_length x1 x2 S_spot S_isWrong x4 = some y → va_P D vwCl (wX7 cI cZ cII aS S_thrown S_s S_aside S_saved S_savedMany S_text S_length S_fetched S_predicted S_fetchedMany S_fetchedWay S_spot S_isWrong S_executedByText ++ []) H → va_D A (wX7 cI cZ cII aS S_thrown S_s S_aside S_saved S_savedMany S_text S_length S_fetched S_predicted S_fetchedMany S_fetchedWay S_spot S_isWrong S_executedByText ++ []) → va_S A s.heap H locs → lv_has ls 5 [(4, .int x4)] → W p l e ({ frames := 2, cells := 0, slots := 0, locals := 44 } : Room) s m args below meth c H locs 0 0 Q (F0 m 58 ls [.ref (aS 0)]) := by
    intro S_spot S_isWrong x4 H locs ls hf hP hD hS hl
    unfold m_X7_takes_58 at hf
    refine lv_iconst (v := 1) hx hb dX7_takes_58 (by decide) ?_
    refine lv_goto (tgt := 63) hx hb dX7_takes_59 (by decide) ?_
    exact J63 S_spot S_isWrong x4 (1 : Int32) _ _ _ hf hP hD hS (lv_sub hl [0] rfl)
  have J42 : ∀ (S_spot : Int32) (S_isWrong : Int32) (x3 : Int32) (x4 : Int32) (k1 : Int32) (k2 : Int32) (H : Heap) (locs : List Loc) (ls : Array Slot), m_X7_takes_42 S_text S_length x1 x2 S_spot S_isWrong x3 x4 k1 k2 = some y → va_P D vwCl (wX7 cI cZ cII aS S_thrown S_s S_aside S_saved S_savedMany S_text S_length S_fetched S_predicted S_fetchedMany S_fetchedWay S_spot S_isWrong S_executedByText ++ []) H → va_D A (wX7 cI cZ cII aS S_thrown S_s S_aside S_saved S_savedMany S_text S_length S_fetched S_predicted S_fetchedMany S_fetchedWay S_spot S_isWrong S_executedByText ++ []) → va_S A s.heap H locs → lv_has ls 5 [(0, .ref (aS 0)), (3, .int x3), (4, .int x4)] → W p l e ({ frames := 2, cells := 0, slots := 0, locals := 44 } : Room) s m args below meth c H locs 0 0 Q (F0 m 42 ls [.int k2, .int k1, .ref (aS 0)]) := by
    intro S_spot S_isWrong x3 x4 k1 k2 H locs ls hf hP hD hS hl
    unfold m_X7_takes_42 at hf
    refine lv_iadd hx hb dX7_takes_42 ?_
    refine lv_topi (fun v43 ev43 => ?_)
    have hf := bd_t ev43 hf
    refine va_put (D := D) (ci := 7) (v := .int v43) (ty := .int) (C := RX7) (T := TX7) (N := 14) hx hb hts inX7 tyX7 tyX7_ok nmX7 hown hK hP hD hS 0 rfl rfl 11 (by decide) kX7_142 (fun _ h9 => h9) rfl (by decide +kernel) rfl rfl (Nat.le_of_ble_eq_true rfl) dX7_takes_43 (fun H locs hP hD hS => ?_)
    have hP : va_P D vwCl (wX7 cI cZ cII aS S_thrown S_s S_aside S_saved S_savedMany S_text S_length S_fetched S_predicted S_fetchedMany S_fetchedWay v43 S_isWrong S_executedByText ++ []) H := hP
    have hD : va_D A (wX7 cI cZ cII aS S_thrown S_s S_aside S_saved S_savedMany S_text S_length S_fetched S_predicted S_fetchedMany S_fetchedWay v43 S_isWrong S_executedByText ++ []) := hD
    refine lv_aload_n hx hb dX7_takes_46 rfl (lv_at hl 0 rfl) ?_
    refine lv_aload_n hx hb dX7_takes_47 rfl (lv_at hl 0 rfl) ?_
    refine va_get (D := D) (ci := 7) (v := .int S_isWrong) (C := RX7) (T := TX7) (N := 14) hx hb hts inX7 hown hK hP 0 rfl rfl 12 (by decide) kX7_138 (fun _ h9 => h9) rfl dX7_takes_48 ?_
    refine lv_if_ne (tgt := 58) hx hb dX7_takes_51 (by decide) (fun c51 => ?_) (fun c51 => ?_)
    · have hf := if_f c51 hf
      exact J58 v43 S_isWrong x4 _ _ _ hf hP hD hS (lv_sub hl [2] rfl)
    · have hf := if_t c51 hf
      refine lv_iload_n hx hb dX7_takes_54 rfl (lv_at hl 1 rfl) ?_
      refine lv_if_ne (tgt := 62) hx hb dX7_takes_55 (by decide) (fun c55 => ?_) (fun c55 => ?_)
      · have hf := if_f c55 hf
        refine lv_iconst (v := 0) hx hb dX7_takes_62 (by decide) ?_
        exact J63 v43 S_isWrong x4 (0 : Int32) _ _ _ hf hP hD hS (lv_sub hl [2] rfl)
      · have hf := if_t c55 hf
        exact J58 v43 S_isWrong x4 _ _ _ hf hP hD hS (lv_sub hl [2] rfl)
  have J26 : ∀ (S_spot : Int32) (S_isWrong : Int32) (x3 : Int32) (k0 : Int32) (H : Heap) (locs : List Loc) (ls : Array Slot), m_X7_takes_26 S_text S_length x1 x2 S_spot S_isWrong x3 k0 = some y → va_P D vwCl (wX7 cI cZ cII aS S_thrown S_s S_aside S_saved S_savedMany S_text S_length S_fetched S_predicted S_fetchedMany S_fetchedWay S_spot S_isWrong S_executedByText ++ []) H → va_D A (wX7 cI cZ cII aS S_thrown S_s S_aside S_saved S_savedMany S_text S_length S_fetched S_predicted S_fetchedMany S_fetchedWay S_spot S_isWrong S_executedByText ++ []) → va_S A s.heap H locs → lv_has ls 5 [(0, .ref (aS 0)), (3, .int x3)] → W p l e ({ frames := 2, cells := 0, slots := 0, locals := 44 } : Room) s m args below meth c H locs 0 0 Q (F0 m 26 ls [.int k0]) := by
    intro S_spot S_isWrong x3 k0 H locs ls hf hP hD hS hl
    unfold m_X7_takes_26 at hf
    refine lv_istore (lv' := [(4, .int k0), (0, .ref (aS 0)), (3, .int x3)]) hx hb dX7_takes_26 hl (by decide) rfl (fun ls hl => ?_)
    refine lv_aload_n hx hb dX7_takes_28 rfl (lv_at hl 1 rfl) ?_
    refine lv_dup hx hb dX7_takes_29 rfl ?_
    refine va_get (D := D) (ci := 7) (v := .int S_spot) (C := RX7) (T := TX7) (N := 14) hx hb hts inX7 hown hK hP 0 rfl rfl 11 (by decide) kX7_142 (fun _ h9 => h9) rfl dX7_takes_30 ?_
    refine lv_iload_n hx hb dX7_takes_33 rfl (lv_at hl 2 rfl) ?_
    refine lv_if_eq (tgt := 41) hx hb dX7_takes_34 (by decide) (fun c34 => ?_) (fun c34 => ?_)
    · have hf := if_t c34 hf
      refine lv_iconst (v := 0) hx hb dX7_takes_41 (by decide) ?_
      exact J42 S_spot S_isWrong x3 k0 S_spot (0 : Int32) _ _ _ hf hP hD hS (lv_sub hl [1, 2, 0] rfl)
    · have hf := if_f c34 hf
      refine lv_iconst (v := 1) hx hb dX7_takes_37 (by decide) ?_
      refine lv_goto (tgt := 42) hx hb dX7_takes_38 (by decide) ?_
      exact J42 S_spot S_isWrong x3 k0 S_spot (1 : Int32) _ _ _ hf hP hD hS (lv_sub hl [1, 2, 0] rfl)
  unfold m_X7_takes at hf
  refine lv_aload_n hx hb dX7_takes_0 rfl (lv_at hl 0 rfl) ?_
  refine lv_iload_n hx hb dX7_takes_1 rfl (lv_at hl 1 rfl) ?_
  refine lv_iload_n hx hb dX7_takes_2 rfl (lv_at hl 2 rfl) ?_
  obtain ⟨y3, h3, hf⟩ := bn_t hf
  refine z_ai (x := []) (b := wX7 cI cZ cII aS S_thrown S_s S_aside S_saved S_savedMany S_text S_length S_fetched S_predicted S_fetchedMany S_fetchedWay S_spot S_isWrong S_executedByText ++ []) (y := ([] : va_W)) (b1 := wX7 cI cZ cII aS S_thrown S_s S_aside S_saved S_savedMany S_text S_length S_fetched S_predicted S_fetchedMany S_fetchedWay S_spot S_isWrong S_executedByText ++ []) (wsn := wX7 cI cZ cII aS S_thrown S_s S_aside S_saved S_savedMany S_text S_length S_fetched S_predicted S_fetchedMany S_fetchedWay S_spot S_isWrong S_executedByText ++ []) (va_runV (As := [.int x1, .int x2]) (rest := []) ⟨hx, hb, hml, hown, hts⟩ (c_X7_isNext l D cI cZ cII cJ cM aS S_thrown S_s S_aside S_saved S_savedMany S_text S_length S_fetched S_predicted S_fetchedMany S_fetchedWay S_spot S_isWrong S_executedByText x1 x2 H.size y3 h3) (cwV 2 hts gX7_takes_X7_isNext rfl rfl rfl (by decide +kernel) ⟨Nat.le_of_ble_eq_true rfl, Nat.le_of_ble_eq_true rfl⟩) (pz_V (x := []) (b := wX7 cI cZ cII aS S_thrown S_s S_aside S_saved S_savedMany S_text S_length S_fetched S_predicted S_fetchedMany S_fetchedWay S_spot S_isWrong S_executedByText ++ []) (y := ([] : va_W)) (C := RX7) (T := TX7) (N := 14) (ci := 7) (As := [.int x1, .int x2]) (bi := 0) hK hN hP hD (by simp only [List.append_assoc, List.nil_append, List.append_nil]) rfl rfl) rfl rfl hl.1 rfl (lv_room (Nat.le_of_ble_eq_true rfl)) dX7_takes_3 ⟨Nat.le_of_ble_eq_true rfl, Nat.le_of_ble_eq_true rfl⟩) hP hD hS hA (by simp only [List.append_assoc, List.nil_append, List.append_nil]) (by simp only [List.append_assoc, List.nil_append, List.append_nil]) (fun H locs hP hD hS => ?_)
  refine lv_istore_n (lv' := [(3, .int y3), (0, .ref (aS 0)), (1, .int x1), (2, .int x2)]) hx hb dX7_takes_6 rfl hl (by decide) rfl (fun ls hl => ?_)
  refine lv_iload_n hx hb dX7_takes_7 rfl (lv_at hl 0 rfl) ?_
  refine lv_if_eq (tgt := 25) hx hb dX7_takes_8 (by decide) (fun c8 => ?_) (fun c8 => ?_)
  · have hf := if_t c8 hf
    refine lv_iconst (v := 0) hx hb dX7_takes_25 (by decide) ?_
    exact J26 S_spot S_isWrong y3 (0 : Int32) _ _ _ hf hP hD hS (lv_sub hl [1, 0] rfl)
  · have hf := if_f c8 hf
    refine lv_aload_n hx hb dX7_takes_11 rfl (lv_at hl 1 rfl) ?_
    refine va_get (D := D) (ci := 7) (v := .ref (aS 4)) (C := RX7) (T := TX7) (N := 14) hx hb hts inX7 hown hK hP 0 rfl rfl 5 (by decide) kX7_19 (fun _ h9 => h9) rfl dX7_takes_12 ?_
    refine lv_aload_n hx hb dX7_takes_15 rfl (lv_at hl 1 rfl) ?_
    refine va_get (D := D) (ci := 7) (v := .int S_spot) (C := RX7) (T := TX7) (N := 14) hx hb hts inX7 hown hK hP 0 rfl rfl 11 (by decide) kX7_142 (fun _ h9 => h9) rfl dX7_takes_16 ?_
    obtain ⟨g19, hf⟩ := gd_t hf
    refine va_iald hx hb hK hP 4 0 rfl rfl (inb_t g19) dX7_takes_19 ?_
    refine lv_iload_n hx hb dX7_takes_20 rfl (lv_at hl 2 rfl) ?_
    refine lv_isub hx hb dX7_takes_21 ?_
    refine lv_goto (tgt := 26) hx hb dX7_takes_22 (by decide) ?_
    exact J26 S_spot S_isWrong y3 ((S_text (Int32.toNatClampNeg S_spot)) - x1) _ _ _ hf hP hD hS (lv_sub hl [1, 0] rfl)
