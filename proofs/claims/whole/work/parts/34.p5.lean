set_option maxHeartbeats 8000000 in
set_option maxRecDepth 100000 in
theorem c_X5_add (l : Launch) (D : va_G) (cI cZ cII cJ cM : ClassId) (aX : Nat → Nat) (X_characters : Nat → Int32) (X_length : Int32) (X_place : Int32) (X_operation : Int32) (X_address : Int32) (X_number : Int32) (X_outcomes : Int32) (x1 : Int32) (sz : Nat) (y : (Int32) × (Nat → Int32) × (Int32)) (hf : m_X5_add X_characters X_length x1 = some y) : Met l yX5_add wsX5_add ({ frames := 0, cells := 0, slots := 0, locals := 0 } : Room) (va_Pc [.ref (aX 0), .int x1] (pzPre D (zT cI cZ cII cJ cM) (wX5 cI cZ cII aX X_characters X_length X_place X_operation X_address X_number X_outcomes ++ []) sz)) (va_Qi (fun v (_ : Unit) => v = y.1) (fun _ t => pzB D (zT cI cZ cII cJ cM) (va_A (wX5 cI cZ cII aX X_characters X_length X_place X_operation X_address X_number X_outcomes ++ []) sz) (wX5 cI cZ cII aX y.2.1 y.2.2 X_place X_operation X_address X_number X_outcomes ++ []) t) (va_A (wX5 cI cZ cII aX X_characters X_length X_place X_operation X_address X_number X_outcomes ++ []) sz)) 0 0 (va_A (wX5 cI cZ cII aX X_characters X_length X_place X_operation X_address X_number X_outcomes ++ []) sz) := by
  refine z_metz (cc := cX5_add) (maxL := 2) (by decide) rfl (Nat.le_of_ble_eq_true rfl) ?_
  intro p e s m args below meth c A ls Q H locs F hP hD hS hl hret
  obtain ⟨hx, hb, hml, hown, hts, hN, hK, hA⟩ := F
  have hown : s.vm.findClass RX5 = some m.cls := hown
  have hl : lv_has ls 2 [(0, .ref (aX 0)), (1, .int x1)] := hl
  have inX5 : ∀ w ∈ u_ws RX5 TX5 7, w ∈ wsX5_add := by decide +kernel
  have kX5_9 := hts (.fieldLink RX5 9 "TraceCache$Text" "characters" "[I") (by decide +kernel)
  have kX5_15 := hts (.fieldLink RX5 15 "TraceCache$Text" "length" "I") (by decide +kernel)
  unfold m_X5_add at hf
  refine lv_aload_n hx hb dX5_add_0 rfl (lv_at hl 0 rfl) ?_
  refine va_get (D := D) (ci := 5) (v := .int X_length) (C := RX5) (T := TX5) (N := 7) hx hb hts inX5 hown hK hP 0 rfl rfl 1 (by decide) kX5_15 (fun _ h9 => h9) rfl dX5_add_1 ?_
  refine lv_bipush (v := 80) hx hb dX5_add_4 (by decide) ?_
  refine lv_icmp_lt (tgt := 11) hx hb dX5_add_6 (by decide) (fun c6 => ?_) (fun c6 => ?_)
  · have hf := if_t c6 hf
    refine lv_aload_n hx hb dX5_add_11 rfl (lv_at hl 0 rfl) ?_
    refine va_get (D := D) (ci := 5) (v := .ref (aX 1)) (C := RX5) (T := TX5) (N := 7) hx hb hts inX5 hown hK hP 0 rfl rfl 0 (by decide) kX5_9 (fun _ h9 => h9) rfl dX5_add_12 ?_
    refine lv_aload_n hx hb dX5_add_15 rfl (lv_at hl 0 rfl) ?_
    refine va_get (D := D) (ci := 5) (v := .int X_length) (C := RX5) (T := TX5) (N := 7) hx hb hts inX5 hown hK hP 0 rfl rfl 1 (by decide) kX5_15 (fun _ h9 => h9) rfl dX5_add_16 ?_
    refine lv_iload_n hx hb dX5_add_19 rfl (lv_at hl 1 rfl) ?_
    obtain ⟨g20, hf⟩ := gd_t hf
    refine va_iast hx hb hK hP hD hS 1 0 rfl rfl (inb_t g20) dX5_add_20 (fun H locs hP hD hS => ?_)
    obtain ⟨X_characters_20, eX_characters_20⟩ : ∃ z : Nat → Int32, z = upd X_characters (Int32.toNatClampNeg X_length) x1 := ⟨_, rfl⟩
    have hf := bd_t eX_characters_20 hf
    have hP : va_P D vwCl (wX5 cI cZ cII aX X_characters_20 X_length X_place X_operation X_address X_number X_outcomes ++ []) H := by rw [eX_characters_20]; exact hP
    have hD : va_D A (wX5 cI cZ cII aX X_characters_20 X_length X_place X_operation X_address X_number X_outcomes ++ []) := by rw [eX_characters_20]; exact hD
    refine lv_aload_n hx hb dX5_add_21 rfl (lv_at hl 0 rfl) ?_
    refine lv_dup hx hb dX5_add_22 rfl ?_
    refine va_get (D := D) (ci := 5) (v := .int X_length) (C := RX5) (T := TX5) (N := 7) hx hb hts inX5 hown hK hP 0 rfl rfl 1 (by decide) kX5_15 (fun _ h9 => h9) rfl dX5_add_23 ?_
    refine lv_iconst (v := 1) hx hb dX5_add_26 (by decide) ?_
    refine lv_iadd hx hb dX5_add_27 ?_
    refine lv_topi (fun v28 ev28 => ?_)
    have hf := bd_t ev28 hf
    refine va_put (D := D) (ci := 5) (v := .int v28) (ty := .int) (C := RX5) (T := TX5) (N := 7) hx hb hts inX5 tyX5 tyX5_ok nmX5 hown hK hP hD hS 0 rfl rfl 1 (by decide) kX5_15 (fun _ h9 => h9) rfl (by decide +kernel) rfl rfl (Nat.le_of_ble_eq_true rfl) dX5_add_28 (fun H locs hP hD hS => ?_)
    have hP : va_P D vwCl (wX5 cI cZ cII aX X_characters_20 v28 X_place X_operation X_address X_number X_outcomes ++ []) H := hP
    have hD : va_D A (wX5 cI cZ cII aX X_characters_20 v28 X_place X_operation X_address X_number X_outcomes ++ []) := hD
    refine lv_iconst (v := 1) hx hb dX5_add_31 (by decide) ?_
    obtain rfl := Option.some.inj hf
    exact hret _ _ _ _ _ dX5_add_32 (by decide) rfl hP hD hS
  · have hf := if_f c6 hf
    refine lv_iconst (v := 0) hx hb dX5_add_9 (by decide) ?_
    obtain rfl := Option.some.inj hf
    exact hret _ _ _ _ _ dX5_add_10 (by decide) rfl hP hD hS
set_option maxHeartbeats 8000000 in
set_option maxRecDepth 100000 in
theorem c_X5_rewind (l : Launch) (D : va_G) (cI cZ cII cJ cM : ClassId) (aX : Nat → Nat) (X_characters : Nat → Int32) (X_length : Int32) (X_place : Int32) (X_operation : Int32) (X_address : Int32) (X_number : Int32) (X_outcomes : Int32) (sz : Nat) (y : (Int32)) (hf : m_X5_rewind X_place = some y) : Met l yX5_rewind wsX5_rewind ({ frames := 0, cells := 0, slots := 0, locals := 0 } : Room) (va_Pc [.ref (aX 0)] (pzPre D (zT cI cZ cII cJ cM) (wX5 cI cZ cII aX X_characters X_length X_place X_operation X_address X_number X_outcomes ++ []) sz)) (va_Qv (fun (_ : Unit) => True) (fun _ t => pzB D (zT cI cZ cII cJ cM) (va_A (wX5 cI cZ cII aX X_characters X_length X_place X_operation X_address X_number X_outcomes ++ []) sz) (wX5 cI cZ cII aX X_characters X_length y X_operation X_address X_number X_outcomes ++ []) t) (va_A (wX5 cI cZ cII aX X_characters X_length X_place X_operation X_address X_number X_outcomes ++ []) sz)) 0 0 (va_A (wX5 cI cZ cII aX X_characters X_length X_place X_operation X_address X_number X_outcomes ++ []) sz) := by
  refine z_metv (cc := cX5_rewind) (maxL := 1) (by decide) rfl (Nat.le_of_ble_eq_true rfl) ?_
  intro p e s m args below meth c A ls Q H locs F hP hD hS hl hret
  obtain ⟨hx, hb, hml, hown, hts, hN, hK, hA⟩ := F
  have hown : s.vm.findClass RX5 = some m.cls := hown
  have hl : lv_has ls 1 [(0, .ref (aX 0))] := hl
  have inX5 : ∀ w ∈ u_ws RX5 TX5 7, w ∈ wsX5_rewind := by decide +kernel
  have kX5_19 := hts (.fieldLink RX5 19 "TraceCache$Text" "place" "I") (by decide +kernel)
  unfold m_X5_rewind at hf
  refine lv_aload_n hx hb dX5_rewind_0 rfl (lv_at hl 0 rfl) ?_
  refine lv_iconst (v := 0) hx hb dX5_rewind_1 (by decide) ?_
  refine va_put (D := D) (ci := 5) (v := .int (0 : Int32)) (ty := .int) (C := RX5) (T := TX5) (N := 7) hx hb hts inX5 tyX5 tyX5_ok nmX5 hown hK hP hD hS 0 rfl rfl 2 (by decide) kX5_19 (fun _ h9 => h9) rfl (by decide +kernel) rfl rfl (Nat.le_of_ble_eq_true rfl) dX5_rewind_2 (fun H locs hP hD hS => ?_)
  have hP : va_P D vwCl (wX5 cI cZ cII aX X_characters X_length (0 : Int32) X_operation X_address X_number X_outcomes ++ []) H := hP
  have hD : va_D A (wX5 cI cZ cII aX X_characters X_length (0 : Int32) X_operation X_address X_number X_outcomes ++ []) := hD
  obtain rfl := Option.some.inj hf
  exact hret _ _ _ _ dX5_rewind_5 hP hD hS
set_option maxHeartbeats 8000000 in
set_option maxRecDepth 100000 in
theorem c_X5_here (l : Launch) (D : va_G) (cI cZ cII cJ cM : ClassId) (aX : Nat → Nat) (X_characters : Nat → Int32) (X_length : Int32) (X_place : Int32) (X_operation : Int32) (X_address : Int32) (X_number : Int32) (X_outcomes : Int32) (sz : Nat) (y : (Int32)) (hf : m_X5_here X_characters X_length X_place = some y) : Met l yX5_here wsX5_here ({ frames := 0, cells := 0, slots := 0, locals := 0 } : Room) (va_Pc [.ref (aX 0)] (pzPre D (zT cI cZ cII cJ cM) (wX5 cI cZ cII aX X_characters X_length X_place X_operation X_address X_number X_outcomes ++ []) sz)) (va_Qi (fun v (_ : Unit) => v = y) (fun _ t => pzB D (zT cI cZ cII cJ cM) (va_A (wX5 cI cZ cII aX X_characters X_length X_place X_operation X_address X_number X_outcomes ++ []) sz) (wX5 cI cZ cII aX X_characters X_length X_place X_operation X_address X_number X_outcomes ++ []) t) (va_A (wX5 cI cZ cII aX X_characters X_length X_place X_operation X_address X_number X_outcomes ++ []) sz)) 0 0 (va_A (wX5 cI cZ cII aX X_characters X_length X_place X_operation X_address X_number X_outcomes ++ []) sz) := by
  refine z_meti (cc := cX5_here) (maxL := 1) (by decide) rfl (Nat.le_of_ble_eq_true rfl) ?_
  intro p e s m args below meth c A ls Q H locs F hP hD hS hl hret
  obtain ⟨hx, hb, hml, hown, hts, hN, hK, hA⟩ := F
  have hown : s.vm.findClass RX5 = some m.cls := hown
  have hl : lv_has ls 1 [(0, .ref (aX 0))] := hl
  have inX5 : ∀ w ∈ u_ws RX5 TX5 7, w ∈ wsX5_here := by decide +kernel
  have kX5_9 := hts (.fieldLink RX5 9 "TraceCache$Text" "characters" "[I") (by decide +kernel)
  have kX5_15 := hts (.fieldLink RX5 15 "TraceCache$Text" "length" "I") (by decide +kernel)
  have kX5_19 := hts (.fieldLink RX5 19 "TraceCache$Text" "place" "I") (by decide +kernel)
  have J24 : ∀ (k0 : Int32) (H : Heap) (locs : List Loc) (ls : Array Slot), m_X5_here_24 X_characters X_length X_place k0 = some y → va_P D vwCl (wX5 cI cZ cII aX X_characters X_length X_place X_operation X_address X_number X_outcomes ++ []) H → va_D A (wX5 cI cZ cII aX X_characters X_length X_place X_operation X_address X_number X_outcomes ++ []) → va_S A s.heap H locs → lv_has ls 1 [] → W p l e ({ frames := 0, cells := 0, slots := 0, locals := 0 } : Room) s m args below meth c H locs 0 0 Q (F0 m 24 ls [.int k0]) := by
    intro k0 H locs ls hf hP hD hS hl
    unfold m_X5_here_24 at hf
    obtain rfl := Option.some.inj hf
    exact hret _ _ _ _ _ dX5_here_24 rfl hP hD hS
  unfold m_X5_here at hf
  refine lv_aload_n hx hb dX5_here_0 rfl (lv_at hl 0 rfl) ?_
  refine va_get (D := D) (ci := 5) (v := .int X_place) (C := RX5) (T := TX5) (N := 7) hx hb hts inX5 hown hK hP 0 rfl rfl 2 (by decide) kX5_19 (fun _ h9 => h9) rfl dX5_here_1 ?_
  refine lv_aload_n hx hb dX5_here_4 rfl (lv_at hl 0 rfl) ?_
  refine va_get (D := D) (ci := 5) (v := .int X_length) (C := RX5) (T := TX5) (N := 7) hx hb hts inX5 hown hK hP 0 rfl rfl 1 (by decide) kX5_15 (fun _ h9 => h9) rfl dX5_here_5 ?_
  refine lv_icmp_ge (tgt := 23) hx hb dX5_here_8 (by decide) (fun c8 => ?_) (fun c8 => ?_)
  · have hf := if_t c8 hf
    refine lv_iconst (v := -1) hx hb dX5_here_23 (by decide) ?_
    exact J24 (-1 : Int32) _ _ _ hf hP hD hS (lv_sub hl [] rfl)
  · have hf := if_f c8 hf
    refine lv_aload_n hx hb dX5_here_11 rfl (lv_at hl 0 rfl) ?_
    refine va_get (D := D) (ci := 5) (v := .ref (aX 1)) (C := RX5) (T := TX5) (N := 7) hx hb hts inX5 hown hK hP 0 rfl rfl 0 (by decide) kX5_9 (fun _ h9 => h9) rfl dX5_here_12 ?_
    refine lv_aload_n hx hb dX5_here_15 rfl (lv_at hl 0 rfl) ?_
    refine va_get (D := D) (ci := 5) (v := .int X_place) (C := RX5) (T := TX5) (N := 7) hx hb hts inX5 hown hK hP 0 rfl rfl 2 (by decide) kX5_19 (fun _ h9 => h9) rfl dX5_here_16 ?_
    obtain ⟨g19, hf⟩ := gd_t hf
    refine va_iald hx hb hK hP 1 0 rfl rfl (inb_t g19) dX5_here_19 ?_
    refine lv_goto (tgt := 24) hx hb dX5_here_20 (by decide) ?_
    exact J24 (X_characters (Int32.toNatClampNeg X_place)) _ _ _ hf hP hD hS (lv_sub hl [] rfl)
set_option maxHeartbeats 8000000 in
set_option maxRecDepth 100000 in
theorem c_X5_digitHere (l : Launch) (D : va_G) (cI cZ cII cJ cM : ClassId) (aX : Nat → Nat) (X_characters : Nat → Int32) (X_length : Int32) (X_place : Int32) (X_operation : Int32) (X_address : Int32) (X_number : Int32) (X_outcomes : Int32) (sz : Nat) (y : (Int32)) (hf : m_X5_digitHere X_characters X_length X_place = some y) : Met l yX5_digitHere wsX5_digitHere ({ frames := 1, cells := 0, slots := 0, locals := 20 } : Room) (va_Pc [.ref (aX 0)] (pzPre D (zT cI cZ cII cJ cM) (wX5 cI cZ cII aX X_characters X_length X_place X_operation X_address X_number X_outcomes ++ []) sz)) (va_Qi (fun v (_ : Unit) => v = y) (fun _ t => pzB D (zT cI cZ cII cJ cM) (va_A (wX5 cI cZ cII aX X_characters X_length X_place X_operation X_address X_number X_outcomes ++ []) sz) (wX5 cI cZ cII aX X_characters X_length X_place X_operation X_address X_number X_outcomes ++ []) t) (va_A (wX5 cI cZ cII aX X_characters X_length X_place X_operation X_address X_number X_outcomes ++ []) sz)) 0 0 (va_A (wX5 cI cZ cII aX X_characters X_length X_place X_operation X_address X_number X_outcomes ++ []) sz) := by
  refine z_meti (cc := cX5_digitHere) (maxL := 2) (by decide) rfl (Nat.le_of_ble_eq_true rfl) ?_
  intro p e s m args below meth c A ls Q H locs F hP hD hS hl hret
  obtain ⟨hx, hb, hml, hown, hts, hN, hK, hA⟩ := F
  have hown : s.vm.findClass RX5 = some m.cls := hown
  have hl : lv_has ls 2 [(0, .ref (aX 0))] := hl
  have J25 : ∀ (k0 : Int32) (H : Heap) (locs : List Loc) (ls : Array Slot), m_X5_digitHere_25 X_characters X_length X_place k0 = some y → va_P D vwCl (wX5 cI cZ cII aX X_characters X_length X_place X_operation X_address X_number X_outcomes ++ []) H → va_D A (wX5 cI cZ cII aX X_characters X_length X_place X_operation X_address X_number X_outcomes ++ []) → va_S A s.heap H locs → lv_has ls 2 [] → W p l e ({ frames := 1, cells := 0, slots := 0, locals := 20 } : Room) s m args below meth c H locs 0 0 Q (F0 m 25 ls [.int k0]) := by
    intro k0 H locs ls hf hP hD hS hl
    unfold m_X5_digitHere_25 at hf
    obtain rfl := Option.some.inj hf
    exact hret _ _ _ _ _ dX5_digitHere_25 rfl hP hD hS
  have J24 : ∀ (H : Heap) (locs : List Loc) (ls : Array Slot), m_X5_digitHere_24 X_characters X_length X_place = some y → va_P D vwCl (wX5 cI cZ cII aX X_characters X_length X_place X_operation X_address X_number X_outcomes ++ []) H → va_D A (wX5 cI cZ cII aX X_characters X_length X_place X_operation X_address X_number X_outcomes ++ []) → va_S A s.heap H locs → lv_has ls 2 [] → W p l e ({ frames := 1, cells := 0, slots := 0, locals := 20 } : Room) s m args below meth c H locs 0 0 Q (F0 m 24 ls []) := by
    intro  H locs ls hf hP hD hS hl
    unfold m_X5_digitHere_24 at hf
    refine lv_iconst (v := -1) hx hb dX5_digitHere_24 (by decide) ?_
    exact J25 (-1 : Int32) _ _ _ hf hP hD hS (lv_sub hl [] rfl)
  unfold m_X5_digitHere at hf
  refine lv_aload_n hx hb dX5_digitHere_0 rfl (lv_at hl 0 rfl) ?_
  obtain ⟨y1, h1, hf⟩ := bn_t hf
  refine z_ai (x := []) (b := wX5 cI cZ cII aX X_characters X_length X_place X_operation X_address X_number X_outcomes ++ []) (y := ([] : va_W)) (b1 := wX5 cI cZ cII aX X_characters X_length X_place X_operation X_address X_number X_outcomes ++ []) (wsn := wX5 cI cZ cII aX X_characters X_length X_place X_operation X_address X_number X_outcomes ++ []) (va_runV (As := []) (rest := []) ⟨hx, hb, hml, hown, hts⟩ (c_X5_here l D cI cZ cII cJ cM aX X_characters X_length X_place X_operation X_address X_number X_outcomes H.size y1 h1) (cwV 0 hts gX5_digitHere_X5_here rfl rfl rfl (by decide +kernel) ⟨Nat.le_of_ble_eq_true rfl, Nat.le_of_ble_eq_true rfl⟩) (pz_V (x := []) (b := wX5 cI cZ cII aX X_characters X_length X_place X_operation X_address X_number X_outcomes ++ []) (y := ([] : va_W)) (C := RX5) (T := TX5) (N := 7) (ci := 5) (As := []) (bi := 0) hK hN hP hD (by simp only [List.append_assoc, List.nil_append, List.append_nil]) rfl rfl) rfl rfl hl.1 rfl (lv_room (Nat.le_of_ble_eq_true rfl)) dX5_digitHere_1 ⟨Nat.le_of_ble_eq_true rfl, Nat.le_of_ble_eq_true rfl⟩) hP hD hS hA (by simp only [List.append_assoc, List.nil_append, List.append_nil]) (by simp only [List.append_assoc, List.nil_append, List.append_nil]) (fun H locs hP hD hS => ?_)
  refine lv_istore_n (lv' := [(1, .int y1), (0, .ref (aX 0))]) hx hb dX5_digitHere_4 rfl hl (by decide) rfl (fun ls hl => ?_)
  refine lv_iload_n hx hb dX5_digitHere_5 rfl (lv_at hl 0 rfl) ?_
  refine lv_bipush (v := 48) hx hb dX5_digitHere_6 (by decide) ?_
  refine lv_icmp_lt (tgt := 24) hx hb dX5_digitHere_8 (by decide) (fun c8 => ?_) (fun c8 => ?_)
  · have hf := if_t c8 hf
    exact J24  _ _ _ hf hP hD hS (lv_sub hl [] rfl)
  · have hf := if_f c8 hf
    refine lv_iload_n hx hb dX5_digitHere_11 rfl (lv_at hl 0 rfl) ?_
    refine lv_bipush (v := 57) hx hb dX5_digitHere_12 (by decide) ?_
    refine lv_icmp_gt (tgt := 24) hx hb dX5_digitHere_14 (by decide) (fun c14 => ?_) (fun c14 => ?_)
    · have hf := if_t c14 hf
      exact J24  _ _ _ hf hP hD hS (lv_sub hl [] rfl)
    · have hf := if_f c14 hf
      refine lv_iload_n hx hb dX5_digitHere_17 rfl (lv_at hl 0 rfl) ?_
      refine lv_bipush (v := 48) hx hb dX5_digitHere_18 (by decide) ?_
      refine lv_isub hx hb dX5_digitHere_20 ?_
      refine lv_goto (tgt := 25) hx hb dX5_digitHere_21 (by decide) ?_
      exact J25 (y1 - (48 : Int32)) _ _ _ hf hP hD hS (lv_sub hl [] rfl)
set_option maxHeartbeats 8000000 in
set_option maxRecDepth 100000 in
theorem c_X5_readNumber (l : Launch) (D : va_G) (cI cZ cII cJ cM : ClassId) (aX : Nat → Nat) (X_characters : Nat → Int32) (X_length : Int32) (X_place : Int32) (X_operation : Int32) (X_address : Int32) (X_number : Int32) (X_outcomes : Int32) (x1 : Int32) (x2 : Int32) (sz : Nat) (y : (Int32) × (Int32) × (Int32)) (hf : m_X5_readNumber X_characters X_length X_place X_number x1 x2 = some y) : Met l yX5_readNumber wsX5_readNumber ({ frames := 2, cells := 0, slots := 0, locals := 41 } : Room) (va_Pc [.ref (aX 0), .int x1, .int x2] (pzPre D (zT cI cZ cII cJ cM) (wX5 cI cZ cII aX X_characters X_length X_place X_operation X_address X_number X_outcomes ++ []) sz)) (va_Qi (fun v (_ : Unit) => v = y.1) (fun _ t => pzB D (zT cI cZ cII cJ cM) (va_A (wX5 cI cZ cII aX X_characters X_length X_place X_operation X_address X_number X_outcomes ++ []) sz) (wX5 cI cZ cII aX X_characters X_length y.2.1 X_operation X_address y.2.2 X_outcomes ++ []) t) (va_A (wX5 cI cZ cII aX X_characters X_length X_place X_operation X_address X_number X_outcomes ++ []) sz)) 0 0 (va_A (wX5 cI cZ cII aX X_characters X_length X_place X_operation X_address X_number X_outcomes ++ []) sz) := by
  refine z_metz (cc := cX5_readNumber) (maxL := 5) (by decide) rfl (Nat.le_of_ble_eq_true rfl) ?_
  intro p e s m args below meth c A ls Q H locs F hP hD hS hl hret
  obtain ⟨hx, hb, hml, hown, hts, hN, hK, hA⟩ := F
  have hown : s.vm.findClass RX5 = some m.cls := hown
  have hl : lv_has ls 5 [(0, .ref (aX 0)), (1, .int x1), (2, .int x2)] := hl
  have inX5 : ∀ w ∈ u_ws RX5 TX5 7, w ∈ wsX5_readNumber := by decide +kernel
  have kX5_19 := hts (.fieldLink RX5 19 "TraceCache$Text" "place" "I") (by decide +kernel)
  have kX5_40 := hts (.fieldLink RX5 40 "TraceCache$Text" "number" "I") (by decide +kernel)
  have J75 : ∀ (X_place : Int32) (X_number : Int32) (H : Heap) (locs : List Loc) (ls : Array Slot), m_X5_readNumber_75 X_characters X_length x1 x2 X_place X_number = some y → va_P D vwCl (wX5 cI cZ cII aX X_characters X_length X_place X_operation X_address X_number X_outcomes ++ []) H → va_D A (wX5 cI cZ cII aX X_characters X_length X_place X_operation X_address X_number X_outcomes ++ []) → va_S A s.heap H locs → lv_has ls 5 [] → W p l e ({ frames := 2, cells := 0, slots := 0, locals := 41 } : Room) s m args below meth c H locs 0 0 Q (F0 m 75 ls []) := by
    intro X_place X_number H locs ls hf hP hD hS hl
    unfold m_X5_readNumber_75 at hf
    refine lv_iconst (v := 1) hx hb dX5_readNumber_75 (by decide) ?_
    obtain rfl := Option.some.inj hf
    exact hret _ _ _ _ _ dX5_readNumber_76 (by decide) rfl hP hD hS
  unfold m_X5_readNumber at hf
  refine lv_aload_n hx hb dX5_readNumber_0 rfl (lv_at hl 0 rfl) ?_
  obtain ⟨y1, h1, hf⟩ := bn_t hf
  refine z_ai (x := []) (b := wX5 cI cZ cII aX X_characters X_length X_place X_operation X_address X_number X_outcomes ++ []) (y := ([] : va_W)) (b1 := wX5 cI cZ cII aX X_characters X_length X_place X_operation X_address X_number X_outcomes ++ []) (wsn := wX5 cI cZ cII aX X_characters X_length X_place X_operation X_address X_number X_outcomes ++ []) (va_runV (As := []) (rest := []) ⟨hx, hb, hml, hown, hts⟩ (c_X5_digitHere l D cI cZ cII cJ cM aX X_characters X_length X_place X_operation X_address X_number X_outcomes H.size y1 h1) (cwV 0 hts gX5_readNumber_X5_digitHere rfl rfl rfl (by decide +kernel) ⟨Nat.le_of_ble_eq_true rfl, Nat.le_of_ble_eq_true rfl⟩) (pz_V (x := []) (b := wX5 cI cZ cII aX X_characters X_length X_place X_operation X_address X_number X_outcomes ++ []) (y := ([] : va_W)) (C := RX5) (T := TX5) (N := 7) (ci := 5) (As := []) (bi := 0) hK hN hP hD (by simp only [List.append_assoc, List.nil_append, List.append_nil]) rfl rfl) rfl rfl hl.1 rfl (lv_room (Nat.le_of_ble_eq_true rfl)) dX5_readNumber_1 ⟨Nat.le_of_ble_eq_true rfl, Nat.le_of_ble_eq_true rfl⟩) hP hD hS hA (by simp only [List.append_assoc, List.nil_append, List.append_nil]) (by simp only [List.append_assoc, List.nil_append, List.append_nil]) (fun H locs hP hD hS => ?_)
  refine lv_istore_n (lv' := [(3, .int y1), (0, .ref (aX 0)), (1, .int x1), (2, .int x2)]) hx hb dX5_readNumber_4 rfl hl (by decide) rfl (fun ls hl => ?_)
  refine lv_iload_n hx hb dX5_readNumber_5 rfl (lv_at hl 0 rfl) ?_
  refine lv_iload_n hx hb dX5_readNumber_6 rfl (lv_at hl 2 rfl) ?_
  refine lv_icmp_ge (tgt := 12) hx hb dX5_readNumber_7 (by decide) (fun c7 => ?_) (fun c7 => ?_)
  · have hf := if_t c7 hf
    refine lv_aload_n hx hb dX5_readNumber_12 rfl (lv_at hl 1 rfl) ?_
    refine lv_iload_n hx hb dX5_readNumber_13 rfl (lv_at hl 0 rfl) ?_
    refine va_put (D := D) (ci := 5) (v := .int y1) (ty := .int) (C := RX5) (T := TX5) (N := 7) hx hb hts inX5 tyX5 tyX5_ok nmX5 hown hK hP hD hS 0 rfl rfl 5 (by decide) kX5_40 (fun _ h9 => h9) rfl (by decide +kernel) rfl rfl (Nat.le_of_ble_eq_true rfl) dX5_readNumber_14 (fun H locs hP hD hS => ?_)
    have hP : va_P D vwCl (wX5 cI cZ cII aX X_characters X_length X_place X_operation X_address y1 X_outcomes ++ []) H := hP
    have hD : va_D A (wX5 cI cZ cII aX X_characters X_length X_place X_operation X_address y1 X_outcomes ++ []) := hD
    refine lv_aload_n hx hb dX5_readNumber_17 rfl (lv_at hl 1 rfl) ?_
    refine lv_dup hx hb dX5_readNumber_18 rfl ?_
    refine va_get (D := D) (ci := 5) (v := .int X_place) (C := RX5) (T := TX5) (N := 7) hx hb hts inX5 hown hK hP 0 rfl rfl 2 (by decide) kX5_19 (fun _ h9 => h9) rfl dX5_readNumber_19 ?_
    refine lv_iconst (v := 1) hx hb dX5_readNumber_22 (by decide) ?_
    refine lv_iadd hx hb dX5_readNumber_23 ?_
    refine lv_topi (fun v24 ev24 => ?_)
    have hf := bd_t ev24 hf
    refine va_put (D := D) (ci := 5) (v := .int v24) (ty := .int) (C := RX5) (T := TX5) (N := 7) hx hb hts inX5 tyX5 tyX5_ok nmX5 hown hK hP hD hS 0 rfl rfl 2 (by decide) kX5_19 (fun _ h9 => h9) rfl (by decide +kernel) rfl rfl (Nat.le_of_ble_eq_true rfl) dX5_readNumber_24 (fun H locs hP hD hS => ?_)
    have hP : va_P D vwCl (wX5 cI cZ cII aX X_characters X_length v24 X_operation X_address y1 X_outcomes ++ []) H := hP
    have hD : va_D A (wX5 cI cZ cII aX X_characters X_length v24 X_operation X_address y1 X_outcomes ++ []) := hD
    refine lv_aload_n hx hb dX5_readNumber_27 rfl (lv_at hl 1 rfl) ?_
    obtain ⟨y28, h28, hf⟩ := bn_t hf
    refine z_ai (x := []) (b := wX5 cI cZ cII aX X_characters X_length v24 X_operation X_address y1 X_outcomes ++ []) (y := ([] : va_W)) (b1 := wX5 cI cZ cII aX X_characters X_length v24 X_operation X_address y1 X_outcomes ++ []) (wsn := wX5 cI cZ cII aX X_characters X_length v24 X_operation X_address y1 X_outcomes ++ []) (va_runV (As := []) (rest := []) ⟨hx, hb, hml, hown, hts⟩ (c_X5_digitHere l D cI cZ cII cJ cM aX X_characters X_length v24 X_operation X_address y1 X_outcomes H.size y28 h28) (cwV 0 hts gX5_readNumber_X5_digitHere rfl rfl rfl (by decide +kernel) ⟨Nat.le_of_ble_eq_true rfl, Nat.le_of_ble_eq_true rfl⟩) (pz_V (x := []) (b := wX5 cI cZ cII aX X_characters X_length v24 X_operation X_address y1 X_outcomes ++ []) (y := ([] : va_W)) (C := RX5) (T := TX5) (N := 7) (ci := 5) (As := []) (bi := 0) hK hN hP hD (by simp only [List.append_assoc, List.nil_append, List.append_nil]) rfl rfl) rfl rfl hl.1 rfl (lv_room (Nat.le_of_ble_eq_true rfl)) dX5_readNumber_28 ⟨Nat.le_of_ble_eq_true rfl, Nat.le_of_ble_eq_true rfl⟩) hP hD hS hA (by simp only [List.append_assoc, List.nil_append, List.append_nil]) (by simp only [List.append_assoc, List.nil_append, List.append_nil]) (fun H locs hP hD hS => ?_)
    refine lv_istore (lv' := [(4, .int y28), (3, .int y1), (0, .ref (aX 0)), (1, .int x1), (2, .int x2)]) hx hb dX5_readNumber_31 hl (by decide) rfl (fun ls hl => ?_)
    refine lv_iload_n hx hb dX5_readNumber_33 rfl (lv_at hl 1 rfl) ?_
    refine lv_if_le (tgt := 75) hx hb dX5_readNumber_34 (by decide) (fun c34 => ?_) (fun c34 => ?_)
    · have hf := if_t c34 hf
      exact J75 v24 y1 _ _ _ hf hP hD hS (lv_sub hl [] rfl)
    · have hf := if_f c34 hf
      refine lv_iload hx hb dX5_readNumber_37 (lv_at hl 0 rfl) ?_
      refine lv_iconst (v := -1) hx hb dX5_readNumber_39 (by decide) ?_
      refine lv_icmp_eq (tgt := 75) hx hb dX5_readNumber_40 (by decide) (fun c40 => ?_) (fun c40 => ?_)
      · have hf := if_t c40 hf
        exact J75 v24 y1 _ _ _ hf hP hD hS (lv_sub hl [] rfl)
      · have hf := if_f c40 hf
        refine lv_iload_n hx hb dX5_readNumber_43 rfl (lv_at hl 1 rfl) ?_
        refine lv_bipush (v := 10) hx hb dX5_readNumber_44 (by decide) ?_
        refine lv_imul hx hb dX5_readNumber_46 ?_
        refine lv_iload hx hb dX5_readNumber_47 (lv_at hl 0 rfl) ?_
        refine lv_iadd hx hb dX5_readNumber_49 ?_
        refine lv_iload_n hx hb dX5_readNumber_50 rfl (lv_at hl 4 rfl) ?_
        refine lv_icmp_gt (tgt := 75) hx hb dX5_readNumber_51 (by decide) (fun c51 => ?_) (fun c51 => ?_)
        · have hf := if_t c51 hf
          exact J75 v24 y1 _ _ _ hf hP hD hS (lv_sub hl [] rfl)
        · have hf := if_f c51 hf
          refine lv_aload_n hx hb dX5_readNumber_54 rfl (lv_at hl 2 rfl) ?_
          refine lv_iload_n hx hb dX5_readNumber_55 rfl (lv_at hl 1 rfl) ?_
          refine lv_bipush (v := 10) hx hb dX5_readNumber_56 (by decide) ?_
          refine lv_imul hx hb dX5_readNumber_58 ?_
          refine lv_iload hx hb dX5_readNumber_59 (lv_at hl 0 rfl) ?_
          refine lv_iadd hx hb dX5_readNumber_61 ?_
          refine lv_topi (fun v62 ev62 => ?_)
          have hf := bd_t ev62 hf
          refine va_put (D := D) (ci := 5) (v := .int v62) (ty := .int) (C := RX5) (T := TX5) (N := 7) hx hb hts inX5 tyX5 tyX5_ok nmX5 hown hK hP hD hS 0 rfl rfl 5 (by decide) kX5_40 (fun _ h9 => h9) rfl (by decide +kernel) rfl rfl (Nat.le_of_ble_eq_true rfl) dX5_readNumber_62 (fun H locs hP hD hS => ?_)
          have hP : va_P D vwCl (wX5 cI cZ cII aX X_characters X_length v24 X_operation X_address v62 X_outcomes ++ []) H := hP
          have hD : va_D A (wX5 cI cZ cII aX X_characters X_length v24 X_operation X_address v62 X_outcomes ++ []) := hD
          refine lv_aload_n hx hb dX5_readNumber_65 rfl (lv_at hl 2 rfl) ?_
          refine lv_dup hx hb dX5_readNumber_66 rfl ?_
          refine va_get (D := D) (ci := 5) (v := .int v24) (C := RX5) (T := TX5) (N := 7) hx hb hts inX5 hown hK hP 0 rfl rfl 2 (by decide) kX5_19 (fun _ h9 => h9) rfl dX5_readNumber_67 ?_
          refine lv_iconst (v := 1) hx hb dX5_readNumber_70 (by decide) ?_
          refine lv_iadd hx hb dX5_readNumber_71 ?_
          refine lv_topi (fun v72 ev72 => ?_)
          have hf := bd_t ev72 hf
          refine va_put (D := D) (ci := 5) (v := .int v72) (ty := .int) (C := RX5) (T := TX5) (N := 7) hx hb hts inX5 tyX5 tyX5_ok nmX5 hown hK hP hD hS 0 rfl rfl 2 (by decide) kX5_19 (fun _ h9 => h9) rfl (by decide +kernel) rfl rfl (Nat.le_of_ble_eq_true rfl) dX5_readNumber_72 (fun H locs hP hD hS => ?_)
          have hP : va_P D vwCl (wX5 cI cZ cII aX X_characters X_length v72 X_operation X_address v62 X_outcomes ++ []) H := hP
          have hD : va_D A (wX5 cI cZ cII aX X_characters X_length v72 X_operation X_address v62 X_outcomes ++ []) := hD
          exact J75 v72 v62 _ _ _ hf hP hD hS (lv_sub hl [] rfl)
  · have hf := if_f c7 hf
    refine lv_iconst (v := 0) hx hb dX5_readNumber_10 (by decide) ?_
    obtain rfl := Option.some.inj hf
    exact hret _ _ _ _ _ dX5_readNumber_11 (by decide) rfl hP hD hS
set_option maxHeartbeats 8000000 in
set_option maxRecDepth 100000 in
theorem c_X5_readPattern (l : Launch) (D : va_G) (cI cZ cII cJ cM : ClassId) (aX : Nat → Nat) (X_characters : Nat → Int32) (X_length : Int32) (X_place : Int32) (X_operation : Int32) (X_address : Int32) (X_number : Int32) (X_outcomes : Int32) (sz : Nat) (y : (Int32) × (Int32) × (Int32) × (Int32)) (hf : m_X5_readPattern X_characters X_length X_place X_number X_outcomes = some y) : Met l yX5_readPattern wsX5_readPattern ({ frames := 1, cells := 0, slots := 0, locals := 20 } : Room) (va_Pc [.ref (aX 0)] (pzPre D (zT cI cZ cII cJ cM) (wX5 cI cZ cII aX X_characters X_length X_place X_operation X_address X_number X_outcomes ++ []) sz)) (va_Qi (fun v (_ : Unit) => v = y.1) (fun _ t => pzB D (zT cI cZ cII cJ cM) (va_A (wX5 cI cZ cII aX X_characters X_length X_place X_operation X_address X_number X_outcomes ++ []) sz) (wX5 cI cZ cII aX X_characters X_length y.2.1 X_operation X_address y.2.2.1 y.2.2.2 ++ []) t) (va_A (wX5 cI cZ cII aX X_characters X_length X_place X_operation X_address X_number X_outcomes ++ []) sz)) 0 0 (va_A (wX5 cI cZ cII aX X_characters X_length X_place X_operation X_address X_number X_outcomes ++ []) sz) := by
  refine z_metz (cc := cX5_readPattern) (maxL := 3) (by decide) rfl (Nat.le_of_ble_eq_true rfl) ?_
  intro p e s m args below meth c A ls Q H locs F hP hD hS hl hret
  obtain ⟨hx, hb, hml, hown, hts, hN, hK, hA⟩ := F
  have hown : s.vm.findClass RX5 = some m.cls := hown
  have hl : lv_has ls 3 [(0, .ref (aX 0))] := hl
  have inX5 : ∀ w ∈ u_ws RX5 TX5 7, w ∈ wsX5_readPattern := by decide +kernel
  have kX5_19 := hts (.fieldLink RX5 19 "TraceCache$Text" "place" "I") (by decide +kernel)
  have kX5_40 := hts (.fieldLink RX5 40 "TraceCache$Text" "number" "I") (by decide +kernel)
  have kX5_55 := hts (.fieldLink RX5 55 "TraceCache$Text" "outcomes" "I") (by decide +kernel)
  have J88 : ∀ (X_place : Int32) (X_number : Int32) (X_outcomes : Int32) (k0 : Int32) (H : Heap) (locs : List Loc) (ls : Array Slot), m_X5_readPattern_88 X_characters X_length X_place X_number X_outcomes k0 = some y → va_P D vwCl (wX5 cI cZ cII aX X_characters X_length X_place X_operation X_address X_number X_outcomes ++ []) H → va_D A (wX5 cI cZ cII aX X_characters X_length X_place X_operation X_address X_number X_outcomes ++ []) → va_S A s.heap H locs → lv_has ls 3 [] → W p l e ({ frames := 1, cells := 0, slots := 0, locals := 20 } : Room) s m args below meth c H locs 0 0 Q (F0 m 88 ls [.int k0]) := by
    intro X_place X_number X_outcomes k0 H locs ls hf hP hD hS hl
    unfold m_X5_readPattern_88 at hf
    obtain ⟨g88, hf⟩ := gd_t hf
    obtain rfl := Option.some.inj hf
    exact hret _ _ _ _ _ dX5_readPattern_88 g88 rfl hP hD hS
  have J76 : ∀ (X_place : Int32) (X_number : Int32) (X_outcomes : Int32) (H : Heap) (locs : List Loc) (ls : Array Slot), m_X5_readPattern_76 X_characters X_length X_place X_number X_outcomes = some y → va_P D vwCl (wX5 cI cZ cII aX X_characters X_length X_place X_operation X_address X_number X_outcomes ++ []) H → va_D A (wX5 cI cZ cII aX X_characters X_length X_place X_operation X_address X_number X_outcomes ++ []) → va_S A s.heap H locs → lv_has ls 3 [(0, .ref (aX 0))] → W p l e ({ frames := 1, cells := 0, slots := 0, locals := 20 } : Room) s m args below meth c H locs 0 0 Q (F0 m 76 ls []) := by
    intro X_place X_number X_outcomes H locs ls hf hP hD hS hl
    unfold m_X5_readPattern_76 at hf
    refine lv_aload_n hx hb dX5_readPattern_76 rfl (lv_at hl 0 rfl) ?_
    refine va_get (D := D) (ci := 5) (v := .int X_outcomes) (C := RX5) (T := TX5) (N := 7) hx hb hts inX5 hown hK hP 0 rfl rfl 6 (by decide) kX5_55 (fun _ h9 => h9) rfl dX5_readPattern_77 ?_
    refine lv_if_le (tgt := 87) hx hb dX5_readPattern_80 (by decide) (fun c80 => ?_) (fun c80 => ?_)
    · have hf := if_t c80 hf
      refine lv_iconst (v := 0) hx hb dX5_readPattern_87 (by decide) ?_
      exact J88 X_place X_number X_outcomes (0 : Int32) _ _ _ hf hP hD hS (lv_sub hl [] rfl)
    · have hf := if_f c80 hf
      refine lv_iconst (v := 1) hx hb dX5_readPattern_83 (by decide) ?_
      refine lv_goto (tgt := 88) hx hb dX5_readPattern_84 (by decide) ?_
      exact J88 X_place X_number X_outcomes (1 : Int32) _ _ _ hf hP hD hS (lv_sub hl [] rfl)
  have J12 : ∀ (n12 : Nat), ∀ (X_place : Int32) (X_number : Int32) (X_outcomes : Int32) (x1 : Int32) (H : Heap) (locs : List Loc) (ls : Array Slot), m_X5_readPattern_12 X_characters X_length n12 X_place X_number X_outcomes x1 = some y → va_P D vwCl (wX5 cI cZ cII aX X_characters X_length X_place X_operation X_address X_number X_outcomes ++ []) H → va_D A (wX5 cI cZ cII aX X_characters X_length X_place X_operation X_address X_number X_outcomes ++ []) → va_S A s.heap H locs → lv_has ls 3 [(0, .ref (aX 0)), (1, .int x1)] → W p l e ({ frames := 1, cells := 0, slots := 0, locals := 20 } : Room) s m args below meth c H locs 0 0 Q (F0 m 12 ls []) := by
    intro n12
    induction n12 with
    | zero =>
      intro X_place X_number X_outcomes x1 H locs ls hf hP hD hS hl
      rw [m_X5_readPattern_12] at hf
      cases hf
    | succ n12 ih12 =>
      have J38 : ∀ (X_place : Int32) (X_number : Int32) (X_outcomes : Int32) (x1 : Int32) (x2 : Int32) (H : Heap) (locs : List Loc) (ls : Array Slot), m_X5_readPattern_38 X_characters X_length (m_X5_readPattern_12 X_characters X_length n12) X_place X_number X_outcomes x1 x2 = some y → va_P D vwCl (wX5 cI cZ cII aX X_characters X_length X_place X_operation X_address X_number X_outcomes ++ []) H → va_D A (wX5 cI cZ cII aX X_characters X_length X_place X_operation X_address X_number X_outcomes ++ []) → va_S A s.heap H locs → lv_has ls 3 [(0, .ref (aX 0)), (1, .int x1), (2, .int x2)] → W p l e ({ frames := 1, cells := 0, slots := 0, locals := 20 } : Room) s m args below meth c H locs 0 0 Q (F0 m 38 ls []) := by
        intro X_place X_number X_outcomes x1 x2 H locs ls hf hP hD hS hl
        unfold m_X5_readPattern_38 at hf
        refine lv_aload_n hx hb dX5_readPattern_38 rfl (lv_at hl 0 rfl) ?_
        refine lv_dup hx hb dX5_readPattern_39 rfl ?_
        refine va_get (D := D) (ci := 5) (v := .int X_number) (C := RX5) (T := TX5) (N := 7) hx hb hts inX5 hown hK hP 0 rfl rfl 5 (by decide) kX5_40 (fun _ h9 => h9) rfl dX5_readPattern_40 ?_
        refine lv_iload_n hx hb dX5_readPattern_43 rfl (lv_at hl 2 rfl) ?_
        refine lv_bipush (v := 48) hx hb dX5_readPattern_44 (by decide) ?_
        refine lv_isub hx hb dX5_readPattern_46 ?_
        refine lv_iload_n hx hb dX5_readPattern_47 rfl (lv_at hl 1 rfl) ?_
        refine lv_ishl hx hb dX5_readPattern_48 ?_
        refine lv_ior hx hb dX5_readPattern_49 ?_
        refine lv_topi (fun v50 ev50 => ?_)
        have hf := bd_t ev50 hf
        refine va_put (D := D) (ci := 5) (v := .int v50) (ty := .int) (C := RX5) (T := TX5) (N := 7) hx hb hts inX5 tyX5 tyX5_ok nmX5 hown hK hP hD hS 0 rfl rfl 5 (by decide) kX5_40 (fun _ h9 => h9) rfl (by decide +kernel) rfl rfl (Nat.le_of_ble_eq_true rfl) dX5_readPattern_50 (fun H locs hP hD hS => ?_)
        have hP : va_P D vwCl (wX5 cI cZ cII aX X_characters X_length X_place X_operation X_address v50 X_outcomes ++ []) H := hP
        have hD : va_D A (wX5 cI cZ cII aX X_characters X_length X_place X_operation X_address v50 X_outcomes ++ []) := hD
        refine lv_aload_n hx hb dX5_readPattern_53 rfl (lv_at hl 0 rfl) ?_
        refine lv_iload_n hx hb dX5_readPattern_54 rfl (lv_at hl 1 rfl) ?_
        refine lv_iconst (v := 1) hx hb dX5_readPattern_55 (by decide) ?_
        refine lv_iadd hx hb dX5_readPattern_56 ?_
        refine lv_topi (fun v57 ev57 => ?_)
        have hf := bd_t ev57 hf
        refine va_put (D := D) (ci := 5) (v := .int v57) (ty := .int) (C := RX5) (T := TX5) (N := 7) hx hb hts inX5 tyX5 tyX5_ok nmX5 hown hK hP hD hS 0 rfl rfl 6 (by decide) kX5_55 (fun _ h9 => h9) rfl (by decide +kernel) rfl rfl (Nat.le_of_ble_eq_true rfl) dX5_readPattern_57 (fun H locs hP hD hS => ?_)
        have hP : va_P D vwCl (wX5 cI cZ cII aX X_characters X_length X_place X_operation X_address v50 v57 ++ []) H := hP
        have hD : va_D A (wX5 cI cZ cII aX X_characters X_length X_place X_operation X_address v50 v57 ++ []) := hD
        refine lv_aload_n hx hb dX5_readPattern_60 rfl (lv_at hl 0 rfl) ?_
        refine lv_dup hx hb dX5_readPattern_61 rfl ?_
        refine va_get (D := D) (ci := 5) (v := .int X_place) (C := RX5) (T := TX5) (N := 7) hx hb hts inX5 hown hK hP 0 rfl rfl 2 (by decide) kX5_19 (fun _ h9 => h9) rfl dX5_readPattern_62 ?_
        refine lv_iconst (v := 1) hx hb dX5_readPattern_65 (by decide) ?_
        refine lv_iadd hx hb dX5_readPattern_66 ?_
        refine lv_topi (fun v67 ev67 => ?_)
        have hf := bd_t ev67 hf
        refine va_put (D := D) (ci := 5) (v := .int v67) (ty := .int) (C := RX5) (T := TX5) (N := 7) hx hb hts inX5 tyX5 tyX5_ok nmX5 hown hK hP hD hS 0 rfl rfl 2 (by decide) kX5_19 (fun _ h9 => h9) rfl (by decide +kernel) rfl rfl (Nat.le_of_ble_eq_true rfl) dX5_readPattern_67 (fun H locs hP hD hS => ?_)
        have hP : va_P D vwCl (wX5 cI cZ cII aX X_characters X_length v67 X_operation X_address v50 v57 ++ []) H := hP
        have hD : va_D A (wX5 cI cZ cII aX X_characters X_length v67 X_operation X_address v50 v57 ++ []) := hD
        obtain ⟨v70, ev70⟩ : ∃ z : Int32, z = x1 + (1 : Int32) := ⟨_, rfl⟩
        have hf := bd_t ev70 hf
        refine lv_iinc (v := v70) (lv' := [(1, .int v70), (0, .ref (aX 0)), (2, .int x2)]) hx hb dX5_readPattern_70 hl (k := 1) rfl (by rw [ev70]; rfl) (by decide) rfl (fun ls hl => ?_)
        refine lv_goto (tgt := 12) hx hb dX5_readPattern_73 (by decide) ?_
        exact ih12 v67 v50 v57 v70 _ _ _ hf hP hD hS (lv_sub hl [1, 0] rfl)
      intro X_place X_number X_outcomes x1 H locs ls hf hP hD hS hl
      rw [m_X5_readPattern_12] at hf
      refine lv_iload_n hx hb dX5_readPattern_12 rfl (lv_at hl 1 rfl) ?_
      refine lv_bipush (v := 8) hx hb dX5_readPattern_13 (by decide) ?_
      refine lv_icmp_ge (tgt := 76) hx hb dX5_readPattern_15 (by decide) (fun c15 => ?_) (fun c15 => ?_)
      · have hf := if_t c15 hf
        exact J76 X_place X_number X_outcomes _ _ _ hf hP hD hS (lv_sub hl [0] rfl)
      · have hf := if_f c15 hf
        refine lv_aload_n hx hb dX5_readPattern_18 rfl (lv_at hl 0 rfl) ?_
        obtain ⟨y19, h19, hf⟩ := bn_t hf
        refine z_ai (x := []) (b := wX5 cI cZ cII aX X_characters X_length X_place X_operation X_address X_number X_outcomes ++ []) (y := ([] : va_W)) (b1 := wX5 cI cZ cII aX X_characters X_length X_place X_operation X_address X_number X_outcomes ++ []) (wsn := wX5 cI cZ cII aX X_characters X_length X_place X_operation X_address X_number X_outcomes ++ []) (va_runV (As := []) (rest := []) ⟨hx, hb, hml, hown, hts⟩ (c_X5_here l D cI cZ cII cJ cM aX X_characters X_length X_place X_operation X_address X_number X_outcomes H.size y19 h19) (cwV 0 hts gX5_readPattern_X5_here rfl rfl rfl (by decide +kernel) ⟨Nat.le_of_ble_eq_true rfl, Nat.le_of_ble_eq_true rfl⟩) (pz_V (x := []) (b := wX5 cI cZ cII aX X_characters X_length X_place X_operation X_address X_number X_outcomes ++ []) (y := ([] : va_W)) (C := RX5) (T := TX5) (N := 7) (ci := 5) (As := []) (bi := 0) hK hN hP hD (by simp only [List.append_assoc, List.nil_append, List.append_nil]) rfl rfl) rfl rfl hl.1 rfl (lv_room (Nat.le_of_ble_eq_true rfl)) dX5_readPattern_19 ⟨Nat.le_of_ble_eq_true rfl, Nat.le_of_ble_eq_true rfl⟩) hP hD hS hA (by simp only [List.append_assoc, List.nil_append, List.append_nil]) (by simp only [List.append_assoc, List.nil_append, List.append_nil]) (fun H locs hP hD hS => ?_)
        refine lv_istore_n (lv' := [(2, .int y19), (0, .ref (aX 0)), (1, .int x1)]) hx hb dX5_readPattern_22 rfl hl (by decide) rfl (fun ls hl => ?_)
        refine lv_iload_n hx hb dX5_readPattern_23 rfl (lv_at hl 0 rfl) ?_
        refine lv_bipush (v := 48) hx hb dX5_readPattern_24 (by decide) ?_
        refine lv_icmp_eq (tgt := 38) hx hb dX5_readPattern_26 (by decide) (fun c26 => ?_) (fun c26 => ?_)
        · have hf := if_t c26 hf
          exact J38 X_place X_number X_outcomes x1 y19 _ _ _ hf hP hD hS (lv_sub hl [1, 2, 0] rfl)
        · have hf := if_f c26 hf
          refine lv_iload_n hx hb dX5_readPattern_29 rfl (lv_at hl 0 rfl) ?_
          refine lv_bipush (v := 49) hx hb dX5_readPattern_30 (by decide) ?_
          refine lv_icmp_eq (tgt := 38) hx hb dX5_readPattern_32 (by decide) (fun c32 => ?_) (fun c32 => ?_)
          · have hf := if_t c32 hf
            exact J38 X_place X_number X_outcomes x1 y19 _ _ _ hf hP hD hS (lv_sub hl [1, 2, 0] rfl)
          · have hf := if_f c32 hf
            refine lv_goto (tgt := 76) hx hb dX5_readPattern_35 (by decide) ?_
            exact J76 X_place X_number X_outcomes _ _ _ hf hP hD hS (lv_sub hl [1] rfl)
  unfold m_X5_readPattern at hf
  refine lv_aload_n hx hb dX5_readPattern_0 rfl (lv_at hl 0 rfl) ?_
  refine lv_iconst (v := 0) hx hb dX5_readPattern_1 (by decide) ?_
  refine va_put (D := D) (ci := 5) (v := .int (0 : Int32)) (ty := .int) (C := RX5) (T := TX5) (N := 7) hx hb hts inX5 tyX5 tyX5_ok nmX5 hown hK hP hD hS 0 rfl rfl 5 (by decide) kX5_40 (fun _ h9 => h9) rfl (by decide +kernel) rfl rfl (Nat.le_of_ble_eq_true rfl) dX5_readPattern_2 (fun H locs hP hD hS => ?_)
  have hP : va_P D vwCl (wX5 cI cZ cII aX X_characters X_length X_place X_operation X_address (0 : Int32) X_outcomes ++ []) H := hP
  have hD : va_D A (wX5 cI cZ cII aX X_characters X_length X_place X_operation X_address (0 : Int32) X_outcomes ++ []) := hD
  refine lv_aload_n hx hb dX5_readPattern_5 rfl (lv_at hl 0 rfl) ?_
  refine lv_iconst (v := 0) hx hb dX5_readPattern_6 (by decide) ?_
  refine va_put (D := D) (ci := 5) (v := .int (0 : Int32)) (ty := .int) (C := RX5) (T := TX5) (N := 7) hx hb hts inX5 tyX5 tyX5_ok nmX5 hown hK hP hD hS 0 rfl rfl 6 (by decide) kX5_55 (fun _ h9 => h9) rfl (by decide +kernel) rfl rfl (Nat.le_of_ble_eq_true rfl) dX5_readPattern_7 (fun H locs hP hD hS => ?_)
  have hP : va_P D vwCl (wX5 cI cZ cII aX X_characters X_length X_place X_operation X_address (0 : Int32) (0 : Int32) ++ []) H := hP
  have hD : va_D A (wX5 cI cZ cII aX X_characters X_length X_place X_operation X_address (0 : Int32) (0 : Int32) ++ []) := hD
  refine lv_iconst (v := 0) hx hb dX5_readPattern_10 (by decide) ?_
  refine lv_istore_n (lv' := [(1, .int (0 : Int32)), (0, .ref (aX 0))]) hx hb dX5_readPattern_11 rfl hl (by decide) rfl (fun ls hl => ?_)
  exact J12 4000 X_place (0 : Int32) (0 : Int32) (0 : Int32) _ _ _ hf hP hD hS (lv_sub hl [1, 0] rfl)
set_option maxHeartbeats 8000000 in
set_option maxRecDepth 100000 in
theorem c_X5_readOperation (l : Launch) (D : va_G) (cI cZ cII cJ cM : ClassId) (aX : Nat → Nat) (X_characters : Nat → Int32) (X_length : Int32) (X_place : Int32) (X_operation : Int32) (X_address : Int32) (X_number : Int32) (X_outcomes : Int32) (sz : Nat) (y : (Int32) × (Int32) × (Int32) × (Int32) × (Int32)) (hf : m_X5_readOperation X_characters X_length X_place X_operation X_number X_outcomes = some y) : Met l yX5_readOperation wsX5_readOperation ({ frames := 3, cells := 0, slots := 0, locals := 65 } : Room) (va_Pc [.ref (aX 0)] (pzPre D (zT cI cZ cII cJ cM) (wX5 cI cZ cII aX X_characters X_length X_place X_operation X_address X_number X_outcomes ++ []) sz)) (va_Qi (fun v (_ : Unit) => v = y.1) (fun _ t => pzB D (zT cI cZ cII cJ cM) (va_A (wX5 cI cZ cII aX X_characters X_length X_place X_operation X_address X_number X_outcomes ++ []) sz) (wX5 cI cZ cII aX X_characters X_length y.2.1 y.2.2.1 X_address y.2.2.2.1 y.2.2.2.2 ++ []) t) (va_A (wX5 cI cZ cII aX X_characters X_length X_place X_operation X_address X_number X_outcomes ++ []) sz)) 0 0 (va_A (wX5 cI cZ cII aX X_characters X_length X_place X_operation X_address X_number X_outcomes ++ []) sz) := by
  refine z_metz (cc := cX5_readOperation) (maxL := 1) (by decide) rfl (Nat.le_of_ble_eq_true rfl) ?_
  intro p e s m args below meth c A ls Q H locs F hP hD hS hl hret
  obtain ⟨hx, hb, hml, hown, hts, hN, hK, hA⟩ := F
  have hown : s.vm.findClass RX5 = some m.cls := hown
  have hl : lv_has ls 1 [(0, .ref (aX 0))] := hl
  have inX5 : ∀ w ∈ u_ws RX5 TX5 7, w ∈ wsX5_readOperation := by decide +kernel
  have kX5_19 := hts (.fieldLink RX5 19 "TraceCache$Text" "place" "I") (by decide +kernel)
  have kX5_33 := hts (.fieldLink RX5 33 "TraceCache$Text" "operation" "I") (by decide +kernel)
  unfold m_X5_readOperation at hf
  refine lv_aload_n hx hb dX5_readOperation_0 rfl (lv_at hl 0 rfl) ?_
  refine lv_aload_n hx hb dX5_readOperation_1 rfl (lv_at hl 0 rfl) ?_
  obtain ⟨y2, h2, hf⟩ := bn_t hf
  refine z_ai (x := []) (b := wX5 cI cZ cII aX X_characters X_length X_place X_operation X_address X_number X_outcomes ++ []) (y := ([] : va_W)) (b1 := wX5 cI cZ cII aX X_characters X_length X_place X_operation X_address X_number X_outcomes ++ []) (wsn := wX5 cI cZ cII aX X_characters X_length X_place X_operation X_address X_number X_outcomes ++ []) (va_runV (As := []) (rest := [.ref (aX 0)]) ⟨hx, hb, hml, hown, hts⟩ (c_X5_here l D cI cZ cII cJ cM aX X_characters X_length X_place X_operation X_address X_number X_outcomes H.size y2 h2) (cwV 0 hts gX5_readOperation_X5_here rfl rfl rfl (by decide +kernel) ⟨Nat.le_of_ble_eq_true rfl, Nat.le_of_ble_eq_true rfl⟩) (pz_V (x := []) (b := wX5 cI cZ cII aX X_characters X_length X_place X_operation X_address X_number X_outcomes ++ []) (y := ([] : va_W)) (C := RX5) (T := TX5) (N := 7) (ci := 5) (As := []) (bi := 0) hK hN hP hD (by simp only [List.append_assoc, List.nil_append, List.append_nil]) rfl rfl) rfl rfl hl.1 rfl (lv_room (Nat.le_of_ble_eq_true rfl)) dX5_readOperation_2 ⟨Nat.le_of_ble_eq_true rfl, Nat.le_of_ble_eq_true rfl⟩) hP hD hS hA (by simp only [List.append_assoc, List.nil_append, List.append_nil]) (by simp only [List.append_assoc, List.nil_append, List.append_nil]) (fun H locs hP hD hS => ?_)
  refine va_put (D := D) (ci := 5) (v := .int y2) (ty := .int) (C := RX5) (T := TX5) (N := 7) hx hb hts inX5 tyX5 tyX5_ok nmX5 hown hK hP hD hS 0 rfl rfl 3 (by decide) kX5_33 (fun _ h9 => h9) rfl (by decide +kernel) rfl rfl (Nat.le_of_ble_eq_true rfl) dX5_readOperation_5 (fun H locs hP hD hS => ?_)
  have hP : va_P D vwCl (wX5 cI cZ cII aX X_characters X_length X_place y2 X_address X_number X_outcomes ++ []) H := hP
  have hD : va_D A (wX5 cI cZ cII aX X_characters X_length X_place y2 X_address X_number X_outcomes ++ []) := hD
  refine lv_aload_n hx hb dX5_readOperation_8 rfl (lv_at hl 0 rfl) ?_
  refine va_get (D := D) (ci := 5) (v := .int y2) (C := RX5) (T := TX5) (N := 7) hx hb hts inX5 hown hK hP 0 rfl rfl 3 (by decide) kX5_33 (fun _ h9 => h9) rfl dX5_readOperation_9 ?_
  by_cases c12_46 : y2 = (46 : Int32)
  · have hf := if_t c12_46 hf
    refine lv_lookup (off := 44) (tgt := 56) hx hb dX5_readOperation_12 (by decide) (by rw [c12_46]; decide) (by decide) ?_
    refine lv_aload_n hx hb dX5_readOperation_56 rfl (lv_at hl 0 rfl) ?_
    refine lv_dup hx hb dX5_readOperation_57 rfl ?_
    refine va_get (D := D) (ci := 5) (v := .int X_place) (C := RX5) (T := TX5) (N := 7) hx hb hts inX5 hown hK hP 0 rfl rfl 2 (by decide) kX5_19 (fun _ h9 => h9) rfl dX5_readOperation_58 ?_
    refine lv_iconst (v := 1) hx hb dX5_readOperation_61 (by decide) ?_
    refine lv_iadd hx hb dX5_readOperation_62 ?_
    refine lv_topi (fun v63 ev63 => ?_)
    have hf := bd_t ev63 hf
    refine va_put (D := D) (ci := 5) (v := .int v63) (ty := .int) (C := RX5) (T := TX5) (N := 7) hx hb hts inX5 tyX5 tyX5_ok nmX5 hown hK hP hD hS 0 rfl rfl 2 (by decide) kX5_19 (fun _ h9 => h9) rfl (by decide +kernel) rfl rfl (Nat.le_of_ble_eq_true rfl) dX5_readOperation_63 (fun H locs hP hD hS => ?_)
    have hP : va_P D vwCl (wX5 cI cZ cII aX X_characters X_length v63 y2 X_address X_number X_outcomes ++ []) H := hP
    have hD : va_D A (wX5 cI cZ cII aX X_characters X_length v63 y2 X_address X_number X_outcomes ++ []) := hD
    refine lv_iconst (v := 1) hx hb dX5_readOperation_66 (by decide) ?_
    obtain rfl := Option.some.inj hf
    exact hret _ _ _ _ _ dX5_readOperation_67 (by decide) rfl hP hD hS
  · have hf := if_f c12_46 hf
    by_cases c12_98 : y2 = (98 : Int32)
    · have hf := if_t c12_98 hf
      refine lv_lookup (off := 56) (tgt := 68) hx hb dX5_readOperation_12 (by decide) (by rw [c12_98]; decide) (by decide) ?_
      refine lv_aload_n hx hb dX5_readOperation_68 rfl (lv_at hl 0 rfl) ?_
      refine lv_dup hx hb dX5_readOperation_69 rfl ?_
      refine va_get (D := D) (ci := 5) (v := .int X_place) (C := RX5) (T := TX5) (N := 7) hx hb hts inX5 hown hK hP 0 rfl rfl 2 (by decide) kX5_19 (fun _ h9 => h9) rfl dX5_readOperation_70 ?_
      refine lv_iconst (v := 1) hx hb dX5_readOperation_73 (by decide) ?_
      refine lv_iadd hx hb dX5_readOperation_74 ?_
      refine lv_topi (fun v75 ev75 => ?_)
      have hf := bd_t ev75 hf
      refine va_put (D := D) (ci := 5) (v := .int v75) (ty := .int) (C := RX5) (T := TX5) (N := 7) hx hb hts inX5 tyX5 tyX5_ok nmX5 hown hK hP hD hS 0 rfl rfl 2 (by decide) kX5_19 (fun _ h9 => h9) rfl (by decide +kernel) rfl rfl (Nat.le_of_ble_eq_true rfl) dX5_readOperation_75 (fun H locs hP hD hS => ?_)
      have hP : va_P D vwCl (wX5 cI cZ cII aX X_characters X_length v75 y2 X_address X_number X_outcomes ++ []) H := hP
      have hD : va_D A (wX5 cI cZ cII aX X_characters X_length v75 y2 X_address X_number X_outcomes ++ []) := hD
      refine lv_aload_n hx hb dX5_readOperation_78 rfl (lv_at hl 0 rfl) ?_
      refine lv_iconst (v := 0) hx hb dX5_readOperation_79 (by decide) ?_
      refine lv_bipush (v := 47) hx hb dX5_readOperation_80 (by decide) ?_
      obtain ⟨y82, h82, hf⟩ := bn_t hf
      refine z_ai (x := []) (b := wX5 cI cZ cII aX X_characters X_length v75 y2 X_address X_number X_outcomes ++ []) (y := ([] : va_W)) (b1 := wX5 cI cZ cII aX X_characters X_length y82.2.1 y2 X_address y82.2.2 X_outcomes ++ []) (wsn := wX5 cI cZ cII aX X_characters X_length y82.2.1 y2 X_address y82.2.2 X_outcomes ++ []) (va_runV (As := [.int (0 : Int32), .int (47 : Int32)]) (rest := []) ⟨hx, hb, hml, hown, hts⟩ (c_X5_readNumber l D cI cZ cII cJ cM aX X_characters X_length v75 y2 X_address X_number X_outcomes (0 : Int32) (47 : Int32) H.size y82 h82) (cwV 2 hts gX5_readOperation_X5_readNumber rfl rfl rfl (by decide +kernel) ⟨Nat.le_of_ble_eq_true rfl, Nat.le_of_ble_eq_true rfl⟩) (pz_V (x := []) (b := wX5 cI cZ cII aX X_characters X_length v75 y2 X_address X_number X_outcomes ++ []) (y := ([] : va_W)) (C := RX5) (T := TX5) (N := 7) (ci := 5) (As := [.int (0 : Int32), .int (47 : Int32)]) (bi := 0) hK hN hP hD (by simp only [List.append_assoc, List.nil_append, List.append_nil]) rfl rfl) rfl rfl hl.1 rfl (lv_room (Nat.le_of_ble_eq_true rfl)) dX5_readOperation_82 ⟨Nat.le_of_ble_eq_true rfl, Nat.le_of_ble_eq_true rfl⟩) hP hD hS hA (by simp only [List.append_assoc, List.nil_append, List.append_nil]) (by simp only [List.append_assoc, List.nil_append, List.append_nil]) (fun H locs hP hD hS => ?_)
      obtain ⟨g85, hf⟩ := gd_t hf
      obtain rfl := Option.some.inj hf
      exact hret _ _ _ _ _ dX5_readOperation_85 g85 rfl hP hD hS
    · have hf := if_f c12_98 hf
      by_cases c12_106 : y2 = (106 : Int32)
      · have hf := if_t c12_106 hf
        refine lv_lookup (off := 56) (tgt := 68) hx hb dX5_readOperation_12 (by decide) (by rw [c12_106]; decide) (by decide) ?_
        refine lv_aload_n hx hb dX5_readOperation_68 rfl (lv_at hl 0 rfl) ?_
        refine lv_dup hx hb dX5_readOperation_69 rfl ?_
        refine va_get (D := D) (ci := 5) (v := .int X_place) (C := RX5) (T := TX5) (N := 7) hx hb hts inX5 hown hK hP 0 rfl rfl 2 (by decide) kX5_19 (fun _ h9 => h9) rfl dX5_readOperation_70 ?_
        refine lv_iconst (v := 1) hx hb dX5_readOperation_73 (by decide) ?_
        refine lv_iadd hx hb dX5_readOperation_74 ?_
        refine lv_topi (fun v75 ev75 => ?_)
        have hf := bd_t ev75 hf
        refine va_put (D := D) (ci := 5) (v := .int v75) (ty := .int) (C := RX5) (T := TX5) (N := 7) hx hb hts inX5 tyX5 tyX5_ok nmX5 hown hK hP hD hS 0 rfl rfl 2 (by decide) kX5_19 (fun _ h9 => h9) rfl (by decide +kernel) rfl rfl (Nat.le_of_ble_eq_true rfl) dX5_readOperation_75 (fun H locs hP hD hS => ?_)
        have hP : va_P D vwCl (wX5 cI cZ cII aX X_characters X_length v75 y2 X_address X_number X_outcomes ++ []) H := hP
        have hD : va_D A (wX5 cI cZ cII aX X_characters X_length v75 y2 X_address X_number X_outcomes ++ []) := hD
        refine lv_aload_n hx hb dX5_readOperation_78 rfl (lv_at hl 0 rfl) ?_
        refine lv_iconst (v := 0) hx hb dX5_readOperation_79 (by decide) ?_
        refine lv_bipush (v := 47) hx hb dX5_readOperation_80 (by decide) ?_
        obtain ⟨y82, h82, hf⟩ := bn_t hf
        refine z_ai (x := []) (b := wX5 cI cZ cII aX X_characters X_length v75 y2 X_address X_number X_outcomes ++ []) (y := ([] : va_W)) (b1 := wX5 cI cZ cII aX X_characters X_length y82.2.1 y2 X_address y82.2.2 X_outcomes ++ []) (wsn := wX5 cI cZ cII aX X_characters X_length y82.2.1 y2 X_address y82.2.2 X_outcomes ++ []) (va_runV (As := [.int (0 : Int32), .int (47 : Int32)]) (rest := []) ⟨hx, hb, hml, hown, hts⟩ (c_X5_readNumber l D cI cZ cII cJ cM aX X_characters X_length v75 y2 X_address X_number X_outcomes (0 : Int32) (47 : Int32) H.size y82 h82) (cwV 2 hts gX5_readOperation_X5_readNumber rfl rfl rfl (by decide +kernel) ⟨Nat.le_of_ble_eq_true rfl, Nat.le_of_ble_eq_true rfl⟩) (pz_V (x := []) (b := wX5 cI cZ cII aX X_characters X_length v75 y2 X_address X_number X_outcomes ++ []) (y := ([] : va_W)) (C := RX5) (T := TX5) (N := 7) (ci := 5) (As := [.int (0 : Int32), .int (47 : Int32)]) (bi := 0) hK hN hP hD (by simp only [List.append_assoc, List.nil_append, List.append_nil]) rfl rfl) rfl rfl hl.1 rfl (lv_room (Nat.le_of_ble_eq_true rfl)) dX5_readOperation_82 ⟨Nat.le_of_ble_eq_true rfl, Nat.le_of_ble_eq_true rfl⟩) hP hD hS hA (by simp only [List.append_assoc, List.nil_append, List.append_nil]) (by simp only [List.append_assoc, List.nil_append, List.append_nil]) (fun H locs hP hD hS => ?_)
        obtain ⟨g85, hf⟩ := gd_t hf
        obtain rfl := Option.some.inj hf
        exact hret _ _ _ _ _ dX5_readOperation_85 g85 rfl hP hD hS
      · have hf := if_f c12_106 hf
        by_cases c12_112 : y2 = (112 : Int32)
        · have hf := if_t c12_112 hf
          refine lv_lookup (off := 74) (tgt := 86) hx hb dX5_readOperation_12 (by decide) (by rw [c12_112]; decide) (by decide) ?_
          refine lv_aload_n hx hb dX5_readOperation_86 rfl (lv_at hl 0 rfl) ?_
          refine lv_dup hx hb dX5_readOperation_87 rfl ?_
          refine va_get (D := D) (ci := 5) (v := .int X_place) (C := RX5) (T := TX5) (N := 7) hx hb hts inX5 hown hK hP 0 rfl rfl 2 (by decide) kX5_19 (fun _ h9 => h9) rfl dX5_readOperation_88 ?_
          refine lv_iconst (v := 1) hx hb dX5_readOperation_91 (by decide) ?_
          refine lv_iadd hx hb dX5_readOperation_92 ?_
          refine lv_topi (fun v93 ev93 => ?_)
          have hf := bd_t ev93 hf
          refine va_put (D := D) (ci := 5) (v := .int v93) (ty := .int) (C := RX5) (T := TX5) (N := 7) hx hb hts inX5 tyX5 tyX5_ok nmX5 hown hK hP hD hS 0 rfl rfl 2 (by decide) kX5_19 (fun _ h9 => h9) rfl (by decide +kernel) rfl rfl (Nat.le_of_ble_eq_true rfl) dX5_readOperation_93 (fun H locs hP hD hS => ?_)
          have hP : va_P D vwCl (wX5 cI cZ cII aX X_characters X_length v93 y2 X_address X_number X_outcomes ++ []) H := hP
          have hD : va_D A (wX5 cI cZ cII aX X_characters X_length v93 y2 X_address X_number X_outcomes ++ []) := hD
          refine lv_aload_n hx hb dX5_readOperation_96 rfl (lv_at hl 0 rfl) ?_
          obtain ⟨y97, h97, hf⟩ := bn_t hf
          refine z_ai (x := []) (b := wX5 cI cZ cII aX X_characters X_length v93 y2 X_address X_number X_outcomes ++ []) (y := ([] : va_W)) (b1 := wX5 cI cZ cII aX X_characters X_length y97.2.1 y2 X_address y97.2.2.1 y97.2.2.2 ++ []) (wsn := wX5 cI cZ cII aX X_characters X_length y97.2.1 y2 X_address y97.2.2.1 y97.2.2.2 ++ []) (va_runV (As := []) (rest := []) ⟨hx, hb, hml, hown, hts⟩ (c_X5_readPattern l D cI cZ cII cJ cM aX X_characters X_length v93 y2 X_address X_number X_outcomes H.size y97 h97) (cwV 0 hts gX5_readOperation_X5_readPattern rfl rfl rfl (by decide +kernel) ⟨Nat.le_of_ble_eq_true rfl, Nat.le_of_ble_eq_true rfl⟩) (pz_V (x := []) (b := wX5 cI cZ cII aX X_characters X_length v93 y2 X_address X_number X_outcomes ++ []) (y := ([] : va_W)) (C := RX5) (T := TX5) (N := 7) (ci := 5) (As := []) (bi := 0) hK hN hP hD (by simp only [List.append_assoc, List.nil_append, List.append_nil]) rfl rfl) rfl rfl hl.1 rfl (lv_room (Nat.le_of_ble_eq_true rfl)) dX5_readOperation_97 ⟨Nat.le_of_ble_eq_true rfl, Nat.le_of_ble_eq_true rfl⟩) hP hD hS hA (by simp only [List.append_assoc, List.nil_append, List.append_nil]) (by simp only [List.append_assoc, List.nil_append, List.append_nil]) (fun H locs hP hD hS => ?_)
          obtain ⟨g100, hf⟩ := gd_t hf
          obtain rfl := Option.some.inj hf
          exact hret _ _ _ _ _ dX5_readOperation_100 g100 rfl hP hD hS
        · have hf := if_f c12_112 hf
          refine lv_lookup (off := 89) (tgt := 101) hx hb dX5_readOperation_12 (by decide) (by show Op.lookupswitch.offset [(46, 44), (98, 56), (106, 56), (112, 74)] _ _ = _; rw [Op.lookupswitch.offset_cons, if_neg (fun h => c12_46 (z_i32 h.symm)), Op.lookupswitch.offset_cons, if_neg (fun h => c12_98 (z_i32 h.symm)), Op.lookupswitch.offset_cons, if_neg (fun h => c12_106 (z_i32 h.symm)), Op.lookupswitch.offset_cons, if_neg (fun h => c12_112 (z_i32 h.symm))]; rfl) (by decide) ?_
          refine lv_iconst (v := 0) hx hb dX5_readOperation_101 (by decide) ?_
          obtain rfl := Option.some.inj hf
          exact hret _ _ _ _ _ dX5_readOperation_102 (by decide) rfl hP hD hS
set_option maxHeartbeats 8000000 in
set_option maxRecDepth 100000 in
theorem c_X5_readNext (l : Launch) (D : va_G) (cI cZ cII cJ cM : ClassId) (aX : Nat → Nat) (X_characters : Nat → Int32) (X_length : Int32) (X_place : Int32) (X_operation : Int32) (X_address : Int32) (X_number : Int32) (X_outcomes : Int32) (sz : Nat) (y : (Int32) × (Int32) × (Int32) × (Int32) × (Int32) × (Int32)) (hf : m_X5_readNext X_characters X_length X_place X_operation X_address X_number X_outcomes = some y) : Met l yX5_readNext wsX5_readNext ({ frames := 4, cells := 0, slots := 0, locals := 85 } : Room) (va_Pc [.ref (aX 0)] (pzPre D (zT cI cZ cII cJ cM) (wX5 cI cZ cII aX X_characters X_length X_place X_operation X_address X_number X_outcomes ++ []) sz)) (va_Qi (fun v (_ : Unit) => v = y.1) (fun _ t => pzB D (zT cI cZ cII cJ cM) (va_A (wX5 cI cZ cII aX X_characters X_length X_place X_operation X_address X_number X_outcomes ++ []) sz) (wX5 cI cZ cII aX X_characters X_length y.2.1 y.2.2.1 y.2.2.2.1 y.2.2.2.2.1 y.2.2.2.2.2 ++ []) t) (va_A (wX5 cI cZ cII aX X_characters X_length X_place X_operation X_address X_number X_outcomes ++ []) sz)) 0 0 (va_A (wX5 cI cZ cII aX X_characters X_length X_place X_operation X_address X_number X_outcomes ++ []) sz) := by
  refine z_metz (cc := cX5_readNext) (maxL := 1) (by decide) rfl (Nat.le_of_ble_eq_true rfl) ?_
  intro p e s m args below meth c A ls Q H locs F hP hD hS hl hret
  obtain ⟨hx, hb, hml, hown, hts, hN, hK, hA⟩ := F
  have hown : s.vm.findClass RX5 = some m.cls := hown
  have hl : lv_has ls 1 [(0, .ref (aX 0))] := hl
  have inX5 : ∀ w ∈ u_ws RX5 TX5 7, w ∈ wsX5_readNext := by decide +kernel
  have kX5_19 := hts (.fieldLink RX5 19 "TraceCache$Text" "place" "I") (by decide +kernel)
  have kX5_33 := hts (.fieldLink RX5 33 "TraceCache$Text" "operation" "I") (by decide +kernel)
  have kX5_40 := hts (.fieldLink RX5 40 "TraceCache$Text" "number" "I") (by decide +kernel)
  have kX5_43 := hts (.fieldLink RX5 43 "TraceCache$Text" "address" "I") (by decide +kernel)
  have J28 : ∀ (X_place : Int32) (X_operation : Int32) (X_address : Int32) (X_number : Int32) (X_outcomes : Int32) (H : Heap) (locs : List Loc) (ls : Array Slot), m_X5_readNext_28 X_characters X_length X_place X_operation X_address X_number X_outcomes = some y → va_P D vwCl (wX5 cI cZ cII aX X_characters X_length X_place X_operation X_address X_number X_outcomes ++ []) H → va_D A (wX5 cI cZ cII aX X_characters X_length X_place X_operation X_address X_number X_outcomes ++ []) → va_S A s.heap H locs → lv_has ls 1 [(0, .ref (aX 0))] → W p l e ({ frames := 4, cells := 0, slots := 0, locals := 85 } : Room) s m args below meth c H locs 0 0 Q (F0 m 28 ls []) := by
    intro X_place X_operation X_address X_number X_outcomes H locs ls hf hP hD hS hl
    unfold m_X5_readNext_28 at hf
    refine lv_aload_n hx hb dX5_readNext_28 rfl (lv_at hl 0 rfl) ?_
    obtain ⟨y29, h29, hf⟩ := bn_t hf
    refine z_ai (x := []) (b := wX5 cI cZ cII aX X_characters X_length X_place X_operation X_address X_number X_outcomes ++ []) (y := ([] : va_W)) (b1 := wX5 cI cZ cII aX X_characters X_length X_place X_operation X_address X_number X_outcomes ++ []) (wsn := wX5 cI cZ cII aX X_characters X_length X_place X_operation X_address X_number X_outcomes ++ []) (va_runV (As := []) (rest := []) ⟨hx, hb, hml, hown, hts⟩ (c_X5_here l D cI cZ cII cJ cM aX X_characters X_length X_place X_operation X_address X_number X_outcomes H.size y29 h29) (cwV 0 hts gX5_readNext_X5_here rfl rfl rfl (by decide +kernel) ⟨Nat.le_of_ble_eq_true rfl, Nat.le_of_ble_eq_true rfl⟩) (pz_V (x := []) (b := wX5 cI cZ cII aX X_characters X_length X_place X_operation X_address X_number X_outcomes ++ []) (y := ([] : va_W)) (C := RX5) (T := TX5) (N := 7) (ci := 5) (As := []) (bi := 0) hK hN hP hD (by simp only [List.append_assoc, List.nil_append, List.append_nil]) rfl rfl) rfl rfl hl.1 rfl (lv_room (Nat.le_of_ble_eq_true rfl)) dX5_readNext_29 ⟨Nat.le_of_ble_eq_true rfl, Nat.le_of_ble_eq_true rfl⟩) hP hD hS hA (by simp only [List.append_assoc, List.nil_append, List.append_nil]) (by simp only [List.append_assoc, List.nil_append, List.append_nil]) (fun H locs hP hD hS => ?_)
    refine lv_bipush (v := 114) hx hb dX5_readNext_32 (by decide) ?_
    refine lv_icmp_ne (tgt := 61) hx hb dX5_readNext_34 (by decide) (fun c34 => ?_) (fun c34 => ?_)
    · have hf := if_f c34 hf
      refine lv_aload_n hx hb dX5_readNext_61 rfl (lv_at hl 0 rfl) ?_
      refine lv_iconst (v := 0) hx hb dX5_readNext_62 (by decide) ?_
      refine lv_bipush (v := 47) hx hb dX5_readNext_63 (by decide) ?_
      obtain ⟨y65, h65, hf⟩ := bn_t hf
      refine z_ai (x := []) (b := wX5 cI cZ cII aX X_characters X_length X_place X_operation X_address X_number X_outcomes ++ []) (y := ([] : va_W)) (b1 := wX5 cI cZ cII aX X_characters X_length y65.2.1 X_operation X_address y65.2.2 X_outcomes ++ []) (wsn := wX5 cI cZ cII aX X_characters X_length y65.2.1 X_operation X_address y65.2.2 X_outcomes ++ []) (va_runV (As := [.int (0 : Int32), .int (47 : Int32)]) (rest := []) ⟨hx, hb, hml, hown, hts⟩ (c_X5_readNumber l D cI cZ cII cJ cM aX X_characters X_length X_place X_operation X_address X_number X_outcomes (0 : Int32) (47 : Int32) H.size y65 h65) (cwV 2 hts gX5_readNext_X5_readNumber rfl rfl rfl (by decide +kernel) ⟨Nat.le_of_ble_eq_true rfl, Nat.le_of_ble_eq_true rfl⟩) (pz_V (x := []) (b := wX5 cI cZ cII aX X_characters X_length X_place X_operation X_address X_number X_outcomes ++ []) (y := ([] : va_W)) (C := RX5) (T := TX5) (N := 7) (ci := 5) (As := [.int (0 : Int32), .int (47 : Int32)]) (bi := 0) hK hN hP hD (by simp only [List.append_assoc, List.nil_append, List.append_nil]) rfl rfl) rfl rfl hl.1 rfl (lv_room (Nat.le_of_ble_eq_true rfl)) dX5_readNext_65 ⟨Nat.le_of_ble_eq_true rfl, Nat.le_of_ble_eq_true rfl⟩) hP hD hS hA (by simp only [List.append_assoc, List.nil_append, List.append_nil]) (by simp only [List.append_assoc, List.nil_append, List.append_nil]) (fun H locs hP hD hS => ?_)
      refine lv_if_ne (tgt := 73) hx hb dX5_readNext_68 (by decide) (fun c68 => ?_) (fun c68 => ?_)
      · have hf := if_f c68 hf
        refine lv_aload_n hx hb dX5_readNext_73 rfl (lv_at hl 0 rfl) ?_
        refine lv_aload_n hx hb dX5_readNext_74 rfl (lv_at hl 0 rfl) ?_
        refine va_get (D := D) (ci := 5) (v := .int y65.2.2) (C := RX5) (T := TX5) (N := 7) hx hb hts inX5 hown hK hP 0 rfl rfl 5 (by decide) kX5_40 (fun _ h9 => h9) rfl dX5_readNext_75 ?_
        refine va_put (D := D) (ci := 5) (v := .int y65.2.2) (ty := .int) (C := RX5) (T := TX5) (N := 7) hx hb hts inX5 tyX5 tyX5_ok nmX5 hown hK hP hD hS 0 rfl rfl 4 (by decide) kX5_43 (fun _ h9 => h9) rfl (by decide +kernel) rfl rfl (Nat.le_of_ble_eq_true rfl) dX5_readNext_78 (fun H locs hP hD hS => ?_)
        have hP : va_P D vwCl (wX5 cI cZ cII aX X_characters X_length y65.2.1 X_operation y65.2.2 y65.2.2 X_outcomes ++ []) H := hP
        have hD : va_D A (wX5 cI cZ cII aX X_characters X_length y65.2.1 X_operation y65.2.2 y65.2.2 X_outcomes ++ []) := hD
        refine lv_aload_n hx hb dX5_readNext_81 rfl (lv_at hl 0 rfl) ?_
        obtain ⟨y82, h82, hf⟩ := bn_t hf
        refine z_ai (x := []) (b := wX5 cI cZ cII aX X_characters X_length y65.2.1 X_operation y65.2.2 y65.2.2 X_outcomes ++ []) (y := ([] : va_W)) (b1 := wX5 cI cZ cII aX X_characters X_length y82.2.1 y82.2.2.1 y65.2.2 y82.2.2.2.1 y82.2.2.2.2 ++ []) (wsn := wX5 cI cZ cII aX X_characters X_length y82.2.1 y82.2.2.1 y65.2.2 y82.2.2.2.1 y82.2.2.2.2 ++ []) (va_runV (As := []) (rest := []) ⟨hx, hb, hml, hown, hts⟩ (c_X5_readOperation l D cI cZ cII cJ cM aX X_characters X_length y65.2.1 X_operation y65.2.2 y65.2.2 X_outcomes H.size y82 h82) (cwV 0 hts gX5_readNext_X5_readOperation rfl rfl rfl (by decide +kernel) ⟨Nat.le_of_ble_eq_true rfl, Nat.le_of_ble_eq_true rfl⟩) (pz_V (x := []) (b := wX5 cI cZ cII aX X_characters X_length y65.2.1 X_operation y65.2.2 y65.2.2 X_outcomes ++ []) (y := ([] : va_W)) (C := RX5) (T := TX5) (N := 7) (ci := 5) (As := []) (bi := 0) hK hN hP hD (by simp only [List.append_assoc, List.nil_append, List.append_nil]) rfl rfl) rfl rfl hl.1 rfl (lv_room (Nat.le_of_ble_eq_true rfl)) dX5_readNext_82 ⟨Nat.le_of_ble_eq_true rfl, Nat.le_of_ble_eq_true rfl⟩) hP hD hS hA (by simp only [List.append_assoc, List.nil_append, List.append_nil]) (by simp only [List.append_assoc, List.nil_append, List.append_nil]) (fun H locs hP hD hS => ?_)
        obtain ⟨g85, hf⟩ := gd_t hf
        obtain rfl := Option.some.inj hf
        exact hret _ _ _ _ _ dX5_readNext_85 g85 rfl hP hD hS
      · have hf := if_t c68 hf
        refine lv_iconst (v := 0) hx hb dX5_readNext_71 (by decide) ?_
        obtain rfl := Option.some.inj hf
        exact hret _ _ _ _ _ dX5_readNext_72 (by decide) rfl hP hD hS
    · have hf := if_t c34 hf
      refine lv_aload_n hx hb dX5_readNext_37 rfl (lv_at hl 0 rfl) ?_
      refine lv_bipush (v := 114) hx hb dX5_readNext_38 (by decide) ?_
      refine va_put (D := D) (ci := 5) (v := .int (114 : Int32)) (ty := .int) (C := RX5) (T := TX5) (N := 7) hx hb hts inX5 tyX5 tyX5_ok nmX5 hown hK hP hD hS 0 rfl rfl 3 (by decide) kX5_33 (fun _ h9 => h9) rfl (by decide +kernel) rfl rfl (Nat.le_of_ble_eq_true rfl) dX5_readNext_40 (fun H locs hP hD hS => ?_)
      have hP : va_P D vwCl (wX5 cI cZ cII aX X_characters X_length X_place (114 : Int32) X_address X_number X_outcomes ++ []) H := hP
      have hD : va_D A (wX5 cI cZ cII aX X_characters X_length X_place (114 : Int32) X_address X_number X_outcomes ++ []) := hD
      refine lv_aload_n hx hb dX5_readNext_43 rfl (lv_at hl 0 rfl) ?_
      refine lv_dup hx hb dX5_readNext_44 rfl ?_
      refine va_get (D := D) (ci := 5) (v := .int X_place) (C := RX5) (T := TX5) (N := 7) hx hb hts inX5 hown hK hP 0 rfl rfl 2 (by decide) kX5_19 (fun _ h9 => h9) rfl dX5_readNext_45 ?_
      refine lv_iconst (v := 1) hx hb dX5_readNext_48 (by decide) ?_
      refine lv_iadd hx hb dX5_readNext_49 ?_
      refine lv_topi (fun v50 ev50 => ?_)
      have hf := bd_t ev50 hf
      refine va_put (D := D) (ci := 5) (v := .int v50) (ty := .int) (C := RX5) (T := TX5) (N := 7) hx hb hts inX5 tyX5 tyX5_ok nmX5 hown hK hP hD hS 0 rfl rfl 2 (by decide) kX5_19 (fun _ h9 => h9) rfl (by decide +kernel) rfl rfl (Nat.le_of_ble_eq_true rfl) dX5_readNext_50 (fun H locs hP hD hS => ?_)
      have hP : va_P D vwCl (wX5 cI cZ cII aX X_characters X_length v50 (114 : Int32) X_address X_number X_outcomes ++ []) H := hP
      have hD : va_D A (wX5 cI cZ cII aX X_characters X_length v50 (114 : Int32) X_address X_number X_outcomes ++ []) := hD
      refine lv_aload_n hx hb dX5_readNext_53 rfl (lv_at hl 0 rfl) ?_
      refine lv_iconst (v := 1) hx hb dX5_readNext_54 (by decide) ?_
      refine lv_bipush (v := 99) hx hb dX5_readNext_55 (by decide) ?_
      obtain ⟨y57, h57, hf⟩ := bn_t hf
      refine z_ai (x := []) (b := wX5 cI cZ cII aX X_characters X_length v50 (114 : Int32) X_address X_number X_outcomes ++ []) (y := ([] : va_W)) (b1 := wX5 cI cZ cII aX X_characters X_length y57.2.1 (114 : Int32) X_address y57.2.2 X_outcomes ++ []) (wsn := wX5 cI cZ cII aX X_characters X_length y57.2.1 (114 : Int32) X_address y57.2.2 X_outcomes ++ []) (va_runV (As := [.int (1 : Int32), .int (99 : Int32)]) (rest := []) ⟨hx, hb, hml, hown, hts⟩ (c_X5_readNumber l D cI cZ cII cJ cM aX X_characters X_length v50 (114 : Int32) X_address X_number X_outcomes (1 : Int32) (99 : Int32) H.size y57 h57) (cwV 2 hts gX5_readNext_X5_readNumber rfl rfl rfl (by decide +kernel) ⟨Nat.le_of_ble_eq_true rfl, Nat.le_of_ble_eq_true rfl⟩) (pz_V (x := []) (b := wX5 cI cZ cII aX X_characters X_length v50 (114 : Int32) X_address X_number X_outcomes ++ []) (y := ([] : va_W)) (C := RX5) (T := TX5) (N := 7) (ci := 5) (As := [.int (1 : Int32), .int (99 : Int32)]) (bi := 0) hK hN hP hD (by simp only [List.append_assoc, List.nil_append, List.append_nil]) rfl rfl) rfl rfl hl.1 rfl (lv_room (Nat.le_of_ble_eq_true rfl)) dX5_readNext_57 ⟨Nat.le_of_ble_eq_true rfl, Nat.le_of_ble_eq_true rfl⟩) hP hD hS hA (by simp only [List.append_assoc, List.nil_append, List.append_nil]) (by simp only [List.append_assoc, List.nil_append, List.append_nil]) (fun H locs hP hD hS => ?_)
      obtain ⟨g60, hf⟩ := gd_t hf
      obtain rfl := Option.some.inj hf
      exact hret _ _ _ _ _ dX5_readNext_60 g60 rfl hP hD hS
  unfold m_X5_readNext at hf
  refine lv_aload_n hx hb dX5_readNext_0 rfl (lv_at hl 0 rfl) ?_
  refine va_get (D := D) (ci := 5) (v := .int X_place) (C := RX5) (T := TX5) (N := 7) hx hb hts inX5 hown hK hP 0 rfl rfl 2 (by decide) kX5_19 (fun _ h9 => h9) rfl dX5_readNext_1 ?_
  refine lv_if_le (tgt := 28) hx hb dX5_readNext_4 (by decide) (fun c4 => ?_) (fun c4 => ?_)
  · have hf := if_t c4 hf
    exact J28 X_place X_operation X_address X_number X_outcomes _ _ _ hf hP hD hS (lv_sub hl [0] rfl)
  · have hf := if_f c4 hf
    refine lv_aload_n hx hb dX5_readNext_7 rfl (lv_at hl 0 rfl) ?_
    obtain ⟨y8, h8, hf⟩ := bn_t hf
    refine z_ai (x := []) (b := wX5 cI cZ cII aX X_characters X_length X_place X_operation X_address X_number X_outcomes ++ []) (y := ([] : va_W)) (b1 := wX5 cI cZ cII aX X_characters X_length X_place X_operation X_address X_number X_outcomes ++ []) (wsn := wX5 cI cZ cII aX X_characters X_length X_place X_operation X_address X_number X_outcomes ++ []) (va_runV (As := []) (rest := []) ⟨hx, hb, hml, hown, hts⟩ (c_X5_here l D cI cZ cII cJ cM aX X_characters X_length X_place X_operation X_address X_number X_outcomes H.size y8 h8) (cwV 0 hts gX5_readNext_X5_here rfl rfl rfl (by decide +kernel) ⟨Nat.le_of_ble_eq_true rfl, Nat.le_of_ble_eq_true rfl⟩) (pz_V (x := []) (b := wX5 cI cZ cII aX X_characters X_length X_place X_operation X_address X_number X_outcomes ++ []) (y := ([] : va_W)) (C := RX5) (T := TX5) (N := 7) (ci := 5) (As := []) (bi := 0) hK hN hP hD (by simp only [List.append_assoc, List.nil_append, List.append_nil]) rfl rfl) rfl rfl hl.1 rfl (lv_room (Nat.le_of_ble_eq_true rfl)) dX5_readNext_8 ⟨Nat.le_of_ble_eq_true rfl, Nat.le_of_ble_eq_true rfl⟩) hP hD hS hA (by simp only [List.append_assoc, List.nil_append, List.append_nil]) (by simp only [List.append_assoc, List.nil_append, List.append_nil]) (fun H locs hP hD hS => ?_)
    refine lv_bipush (v := 59) hx hb dX5_readNext_11 (by decide) ?_
    refine lv_icmp_eq (tgt := 18) hx hb dX5_readNext_13 (by decide) (fun c13 => ?_) (fun c13 => ?_)
    · have hf := if_t c13 hf
      refine lv_aload_n hx hb dX5_readNext_18 rfl (lv_at hl 0 rfl) ?_
      refine lv_dup hx hb dX5_readNext_19 rfl ?_
      refine va_get (D := D) (ci := 5) (v := .int X_place) (C := RX5) (T := TX5) (N := 7) hx hb hts inX5 hown hK hP 0 rfl rfl 2 (by decide) kX5_19 (fun _ h9 => h9) rfl dX5_readNext_20 ?_
      refine lv_iconst (v := 1) hx hb dX5_readNext_23 (by decide) ?_
      refine lv_iadd hx hb dX5_readNext_24 ?_
      refine lv_topi (fun v25 ev25 => ?_)
      have hf := bd_t ev25 hf
      refine va_put (D := D) (ci := 5) (v := .int v25) (ty := .int) (C := RX5) (T := TX5) (N := 7) hx hb hts inX5 tyX5 tyX5_ok nmX5 hown hK hP hD hS 0 rfl rfl 2 (by decide) kX5_19 (fun _ h9 => h9) rfl (by decide +kernel) rfl rfl (Nat.le_of_ble_eq_true rfl) dX5_readNext_25 (fun H locs hP hD hS => ?_)
      have hP : va_P D vwCl (wX5 cI cZ cII aX X_characters X_length v25 X_operation X_address X_number X_outcomes ++ []) H := hP
      have hD : va_D A (wX5 cI cZ cII aX X_characters X_length v25 X_operation X_address X_number X_outcomes ++ []) := hD
      exact J28 v25 X_operation X_address X_number X_outcomes _ _ _ hf hP hD hS (lv_sub hl [0] rfl)
    · have hf := if_f c13 hf
      refine lv_iconst (v := 0) hx hb dX5_readNext_16 (by decide) ?_
      obtain rfl := Option.some.inj hf
      exact hret _ _ _ _ _ dX5_readNext_17 (by decide) rfl hP hD hS
set_option maxHeartbeats 8000000 in
set_option maxRecDepth 100000 in
theorem c_X5_firstError (l : Launch) (D : va_G) (cI cZ cII cJ cM : ClassId) (aX : Nat → Nat) (X_characters : Nat → Int32) (X_length : Int32) (X_place : Int32) (X_operation : Int32) (X_address : Int32) (X_number : Int32) (X_outcomes : Int32) (sz : Nat) (y : (Int32) × (Int32) × (Int32) × (Int32) × (Int32) × (Int32)) (hf : m_X5_firstError X_characters X_length X_place X_operation X_address X_number X_outcomes = some y) : Met l yX5_firstError wsX5_firstError ({ frames := 5, cells := 0, slots := 0, locals := 105 } : Room) (va_Pc [.ref (aX 0)] (pzPre D (zT cI cZ cII cJ cM) (wX5 cI cZ cII aX X_characters X_length X_place X_operation X_address X_number X_outcomes ++ []) sz)) (va_Qi (fun v (_ : Unit) => v = y.1) (fun _ t => pzB D (zT cI cZ cII cJ cM) (va_A (wX5 cI cZ cII aX X_characters X_length X_place X_operation X_address X_number X_outcomes ++ []) sz) (wX5 cI cZ cII aX X_characters X_length y.2.1 y.2.2.1 y.2.2.2.1 y.2.2.2.2.1 y.2.2.2.2.2 ++ []) t) (va_A (wX5 cI cZ cII aX X_characters X_length X_place X_operation X_address X_number X_outcomes ++ []) sz)) 0 0 (va_A (wX5 cI cZ cII aX X_characters X_length X_place X_operation X_address X_number X_outcomes ++ []) sz) := by
  refine z_meti (cc := cX5_firstError) (maxL := 2) (by decide) rfl (Nat.le_of_ble_eq_true rfl) ?_
  intro p e s m args below meth c A ls Q H locs F hP hD hS hl hret
  obtain ⟨hx, hb, hml, hown, hts, hN, hK, hA⟩ := F
  have hown : s.vm.findClass RX5 = some m.cls := hown
  have hl : lv_has ls 2 [(0, .ref (aX 0))] := hl
  have inX5 : ∀ w ∈ u_ws RX5 TX5 7, w ∈ wsX5_firstError := by decide +kernel
  have kX5_15 := hts (.fieldLink RX5 15 "TraceCache$Text" "length" "I") (by decide +kernel)
  have kX5_19 := hts (.fieldLink RX5 19 "TraceCache$Text" "place" "I") (by decide +kernel)
  have J37 : ∀ (X_place : Int32) (X_operation : Int32) (X_address : Int32) (X_number : Int32) (X_outcomes : Int32) (H : Heap) (locs : List Loc) (ls : Array Slot), m_X5_firstError_37 X_characters X_length X_place X_operation X_address X_number X_outcomes = some y → va_P D vwCl (wX5 cI cZ cII aX X_characters X_length X_place X_operation X_address X_number X_outcomes ++ []) H → va_D A (wX5 cI cZ cII aX X_characters X_length X_place X_operation X_address X_number X_outcomes ++ []) → va_S A s.heap H locs → lv_has ls 2 [(0, .ref (aX 0))] → W p l e ({ frames := 5, cells := 0, slots := 0, locals := 105 } : Room) s m args below meth c H locs 0 0 Q (F0 m 37 ls []) := by
    intro X_place X_operation X_address X_number X_outcomes H locs ls hf hP hD hS hl
    unfold m_X5_firstError_37 at hf
    refine lv_aload_n hx hb dX5_firstError_37 rfl (lv_at hl 0 rfl) ?_
    refine va_get (D := D) (ci := 5) (v := .int X_place) (C := RX5) (T := TX5) (N := 7) hx hb hts inX5 hown hK hP 0 rfl rfl 2 (by decide) kX5_19 (fun _ h9 => h9) rfl dX5_firstError_38 ?_
    obtain rfl := Option.some.inj hf
    exact hret _ _ _ _ _ dX5_firstError_41 rfl hP hD hS
  have J7 : ∀ (n7 : Nat), ∀ (X_place : Int32) (X_operation : Int32) (X_address : Int32) (X_number : Int32) (X_outcomes : Int32) (x1 : Int32) (H : Heap) (locs : List Loc) (ls : Array Slot), m_X5_firstError_7 X_characters X_length n7 X_place X_operation X_address X_number X_outcomes x1 = some y → va_P D vwCl (wX5 cI cZ cII aX X_characters X_length X_place X_operation X_address X_number X_outcomes ++ []) H → va_D A (wX5 cI cZ cII aX X_characters X_length X_place X_operation X_address X_number X_outcomes ++ []) → va_S A s.heap H locs → lv_has ls 2 [(0, .ref (aX 0)), (1, .int x1)] → W p l e ({ frames := 5, cells := 0, slots := 0, locals := 105 } : Room) s m args below meth c H locs 0 0 Q (F0 m 7 ls []) := by
    intro n7
    induction n7 with
    | zero =>
      intro X_place X_operation X_address X_number X_outcomes x1 H locs ls hf hP hD hS hl
      rw [m_X5_firstError_7] at hf
      cases hf
    | succ n7 ih7 =>
      intro X_place X_operation X_address X_number X_outcomes x1 H locs ls hf hP hD hS hl
      rw [m_X5_firstError_7] at hf
      refine lv_iload_n hx hb dX5_firstError_7 rfl (lv_at hl 1 rfl) ?_
      refine lv_if_le (tgt := 37) hx hb dX5_firstError_8 (by decide) (fun c8 => ?_) (fun c8 => ?_)
      · have hf := if_t c8 hf
        exact J37 X_place X_operation X_address X_number X_outcomes _ _ _ hf hP hD hS (lv_sub hl [0] rfl)
      · have hf := if_f c8 hf
        refine lv_aload_n hx hb dX5_firstError_11 rfl (lv_at hl 0 rfl) ?_
        obtain ⟨y12, h12, hf⟩ := bn_t hf
        refine z_ai (x := []) (b := wX5 cI cZ cII aX X_characters X_length X_place X_operation X_address X_number X_outcomes ++ []) (y := ([] : va_W)) (b1 := wX5 cI cZ cII aX X_characters X_length y12.2.1 y12.2.2.1 y12.2.2.2.1 y12.2.2.2.2.1 y12.2.2.2.2.2 ++ []) (wsn := wX5 cI cZ cII aX X_characters X_length y12.2.1 y12.2.2.1 y12.2.2.2.1 y12.2.2.2.2.1 y12.2.2.2.2.2 ++ []) (va_runV (As := []) (rest := []) ⟨hx, hb, hml, hown, hts⟩ (c_X5_readNext l D cI cZ cII cJ cM aX X_characters X_length X_place X_operation X_address X_number X_outcomes H.size y12 h12) (cwV 0 hts gX5_firstError_X5_readNext rfl rfl rfl (by decide +kernel) ⟨Nat.le_of_ble_eq_true rfl, Nat.le_of_ble_eq_true rfl⟩) (pz_V (x := []) (b := wX5 cI cZ cII aX X_characters X_length X_place X_operation X_address X_number X_outcomes ++ []) (y := ([] : va_W)) (C := RX5) (T := TX5) (N := 7) (ci := 5) (As := []) (bi := 0) hK hN hP hD (by simp only [List.append_assoc, List.nil_append, List.append_nil]) rfl rfl) rfl rfl hl.1 rfl (lv_room (Nat.le_of_ble_eq_true rfl)) dX5_firstError_12 ⟨Nat.le_of_ble_eq_true rfl, Nat.le_of_ble_eq_true rfl⟩) hP hD hS hA (by simp only [List.append_assoc, List.nil_append, List.append_nil]) (by simp only [List.append_assoc, List.nil_append, List.append_nil]) (fun H locs hP hD hS => ?_)
        refine lv_if_eq (tgt := 37) hx hb dX5_firstError_15 (by decide) (fun c15 => ?_) (fun c15 => ?_)
        · have hf := if_t c15 hf
          exact J37 y12.2.1 y12.2.2.1 y12.2.2.2.1 y12.2.2.2.2.1 y12.2.2.2.2.2 _ _ _ hf hP hD hS (lv_sub hl [0] rfl)
        · have hf := if_f c15 hf
          refine lv_aload_n hx hb dX5_firstError_18 rfl (lv_at hl 0 rfl) ?_
          refine va_get (D := D) (ci := 5) (v := .int y12.2.1) (C := RX5) (T := TX5) (N := 7) hx hb hts inX5 hown hK hP 0 rfl rfl 2 (by decide) kX5_19 (fun _ h9 => h9) rfl dX5_firstError_19 ?_
          refine lv_aload_n hx hb dX5_firstError_22 rfl (lv_at hl 0 rfl) ?_
          refine va_get (D := D) (ci := 5) (v := .int X_length) (C := RX5) (T := TX5) (N := 7) hx hb hts inX5 hown hK hP 0 rfl rfl 1 (by decide) kX5_15 (fun _ h9 => h9) rfl dX5_firstError_23 ?_
          refine lv_icmp_ne (tgt := 31) hx hb dX5_firstError_26 (by decide) (fun c26 => ?_) (fun c26 => ?_)
          · have hf := if_f c26 hf
            obtain ⟨v31, ev31⟩ : ∃ z : Int32, z = x1 + (-1 : Int32) := ⟨_, rfl⟩
            have hf := bd_t ev31 hf
            refine lv_iinc (v := v31) (lv' := [(1, .int v31), (0, .ref (aX 0))]) hx hb dX5_firstError_31 hl (k := 1) rfl (by rw [ev31]; rfl) (by decide) rfl (fun ls hl => ?_)
            refine lv_goto (tgt := 7) hx hb dX5_firstError_34 (by decide) ?_
            exact ih7 y12.2.1 y12.2.2.1 y12.2.2.2.1 y12.2.2.2.2.1 y12.2.2.2.2.2 v31 _ _ _ hf hP hD hS (lv_sub hl [1, 0] rfl)
          · have hf := if_t c26 hf
            refine lv_iconst (v := -1) hx hb dX5_firstError_29 (by decide) ?_
            obtain rfl := Option.some.inj hf
            exact hret _ _ _ _ _ dX5_firstError_30 rfl hP hD hS
  unfold m_X5_firstError at hf
  refine lv_aload_n hx hb dX5_firstError_0 rfl (lv_at hl 0 rfl) ?_
  obtain ⟨y1, h1, hf⟩ := bn_t hf
  refine z_av (x := []) (b := wX5 cI cZ cII aX X_characters X_length X_place X_operation X_address X_number X_outcomes ++ []) (y := ([] : va_W)) (b1 := wX5 cI cZ cII aX X_characters X_length y1 X_operation X_address X_number X_outcomes ++ []) (wsn := wX5 cI cZ cII aX X_characters X_length y1 X_operation X_address X_number X_outcomes ++ []) (va_runV (As := []) (rest := []) ⟨hx, hb, hml, hown, hts⟩ (c_X5_rewind l D cI cZ cII cJ cM aX X_characters X_length X_place X_operation X_address X_number X_outcomes H.size y1 h1) (cwV 0 hts gX5_firstError_X5_rewind rfl rfl rfl (by decide +kernel) ⟨Nat.le_of_ble_eq_true rfl, Nat.le_of_ble_eq_true rfl⟩) (pz_V (x := []) (b := wX5 cI cZ cII aX X_characters X_length X_place X_operation X_address X_number X_outcomes ++ []) (y := ([] : va_W)) (C := RX5) (T := TX5) (N := 7) (ci := 5) (As := []) (bi := 0) hK hN hP hD (by simp only [List.append_assoc, List.nil_append, List.append_nil]) rfl rfl) rfl rfl hl.1 rfl (lv_room (Nat.le_of_ble_eq_true rfl)) dX5_firstError_1 ⟨Nat.le_of_ble_eq_true rfl, Nat.le_of_ble_eq_true rfl⟩) hP hD hS hA (by simp only [List.append_assoc, List.nil_append, List.append_nil]) (by simp only [List.append_assoc, List.nil_append, List.append_nil]) (fun H locs hP hD hS => ?_)
  refine lv_bipush (v := 80) hx hb dX5_firstError_4 (by decide) ?_
  refine lv_istore_n (lv' := [(1, .int (80 : Int32)), (0, .ref (aX 0))]) hx hb dX5_firstError_6 rfl hl (by decide) rfl (fun ls hl => ?_)
  exact J7 4000 y1 X_operation X_address X_number X_outcomes (80 : Int32) _ _ _ hf hP hD hS (lv_sub hl [1, 0] rfl)
