-- ===== ZL: the law's loop: its kit =====
theorem z_rc {a : Nat} (h : a ≤ 601024) : a ≤ room_1.cells := h
theorem z_rs {a : Nat} (h : a ≤ 7293034) : a ≤ room_1.slots := h
/-- what holds at the law's entry, for any record of draws -/
def z_LF (s : State) (m : MethodId) (args : Array Value) (D : va_G) (tys : List (ClassId × FieldType)) (A : Nat → Prop) (b L : Nat) (xs : Nat → Int32) : Prop :=
  (∀ w ∈ wsL_law, w.before args s = true) ∧ s.vm.findClass RL = some m.cls ∧ pzN s ∧ va_K D vwCl tys s ∧ pzX A s s.heap ∧ pzNc s ∧ va_X b L xs s s.heap ∧ ∀ q : Nat, s.heap.size ≤ q → A q
theorem z_LF.dr {s : State} {m : MethodId} {args : Array Value} {D : va_G} {tys : List (ClassId × FieldType)} {A : Nat → Prop} {b L : Nat} {xs : Nat → Int32} (h : z_LF s m args D tys A b L xs) (d : Drawn) : z_LF (s.setDrawn d) m args D tys A b L xs := by
  obtain ⟨h1, h2, h3, h4, h5, h6, h7, h8⟩ := h
  refine ⟨dr_words h1 d, h2, h3.dr d, va_K_dr h4 d, ⟨pzR.same (show (s.setDrawn d).vm = s.vm from rfl) h5.1, vx_Zq.moved (u := s) (U := s.setDrawn d) (Vm.Alike.refl s.vm) h5.2.1, vx_Zq.moved (u := s) (U := s.setDrawn d) (Vm.Alike.refl s.vm) h5.2.2⟩, ⟨va_Nc.moved (u := s) (U := s.setDrawn d) (Vm.Alike.refl s.vm) h6.1, va_Nc.moved (u := s) (U := s.setDrawn d) (Vm.Alike.refl s.vm) h6.2⟩, ?_, h8⟩
  obtain ⟨scr, g1, g2, g3, g4, g5⟩ := h7
  exact ⟨scr, g1, g2, g3, g4, g5⟩
section ZLD
variable {p : Program} {l : Launch} {e : Env} {R : Room} {s : State} {m : MethodId} {args : Array Value} {below : List Frame} {meth : Method} {c : Code} {H : Heap} {locs : List Loc} {cells slots : Nat} {Q : State → Prop} {pc : Nat} {ls : Array Slot} {rest st0 : List Value} {a : Array Value} {A : Nat → Prop} {D : va_G} {tys : List (ClassId × FieldType)} {ws wsn x b y b1 : va_W} {mc ms : Nat} {d0 : Drawn}
theorem z_ad {post : UInt64 → Prop} (hd0 : s.drawn.sameBut d0 lw_cs) (hr : va_RunD lw_cs p l e R (s.setDrawn d0) m args below meth c H locs cells slots mc ms (F0 m pc ls st0) rest (va_Qd (fun v (_ : Unit) => post v) (fun _ t => pzB D tys (va_A b H.size) b1 t) (va_A b H.size) a) (va_A b H.size))
    (hP : va_P D vwCl ws H) (hD : va_D A ws) (hS : va_S A s.heap H locs) (hA : ∀ q, s.heap.size ≤ q → A q) (hws : ws = x ++ (b ++ y)) (hwn : wsn = x ++ (b1 ++ y))
    (kk : ∀ (v : UInt64) (H1 : Heap) (locs1 : List Loc) (d1 : Drawn), post v → s.drawn.sameBut d1 lw_cs → va_P D vwCl wsn H1 → va_D A wsn → va_S A s.heap H1 locs1 → W p l e R (s.setDrawn d1) m args below meth c H1 locs1 (cells + mc) (slots + ms) Q (F0 m (pc + 3) ls (.double v :: rest))) : W p l e R (s.setDrawn d0) m args below meth c H locs cells slots Q (F0 m pc ls st0) := by
  subst hws
  subst hwn
  have hF := pz_free hD hS hA
  refine va_calldD hd0 hr hS (fun q _ h => hF q h) hF (fun v u t H1 locs1 ht hvm hv hB hz1 hk1 hS d1 hd1 => ?_)
  obtain ⟨hP1, -, hD1⟩ := hB
  rw [ht] at hP1
  obtain ⟨hP, hD⟩ := pz_join hP hD hk1 hF hP1 hD1
  exact kk v H1 locs1 d1 hv hd1 hP hD hS
end ZLD
theorem z_nan {x : UInt64} (h : isNaN64 x = true) : FP.decode FP.b64 x.toNat = .nan := by
  have h1 := isNaN64_iff.mp h
  have h2 : x.toNat &&& 0x7fffffffffffffff = x.toNat % 9223372036854775808 := Nat.and_two_pow_sub_one_eq_mod x.toNat 63
  rw [h2] at h1
  have h3 : (0x7ff0000000000000 : Nat) = 9218868437227405312 := rfl
  rw [h3] at h1
  have hE : FP.fieldE FP.b64 x.toNat = FP.b64.exps - 1 := by
    show x.toNat / 4503599627370496 % 2048 = 2047
    omega
  have hT : ¬ FP.fieldT FP.b64 x.toNat = 0 := by
    show ¬ x.toNat % 4503599627370496 = 0
    omega
  unfold FP.decode
  rw [if_pos hE, if_neg hT]
theorem z_dnan {x y : UInt64} (h : isNaN64 x = true) : ¬ Op.cmpValue (FP.dcmp x y) .l = 0 := by
  have h1 : FP.dcmp x y = none := by
    show FP.order (FP.decode FP.b64 x.toNat) (FP.decode FP.b64 y.toNat) = none
    rw [z_nan h]
    rfl
  rw [h1]
  decide
/-- two answers of the same rate: equal, or both no number -/
theorem z_rt_two {ex ti : Int32} {v w : UInt64} (hv : z_rt ex ti v) (hw : z_rt ex ti w) : v = w ∨ (isNaN64 v = true ∧ isNaN64 w = true) := by
  by_cases h : ti = 0
  · exact Or.inl ((hv.1 h).trans (hw.1 h).symm)
  · have h1 := hv.2 h
    have h2 := hw.2 h
    simp only [alike64, Bool.or_eq_true, decide_eq_true_eq, Bool.and_eq_true] at h1 h2
    rcases h1 with h1 | h1 <;> rcases h2 with h2 | h2
    · exact Or.inl (h1.trans h2.symm)
    · exact Or.inr ⟨by rw [h1]; exact h2.2, h2.1⟩
    · exact Or.inr ⟨h1.1, by rw [h2]; exact h1.2⟩
    · exact Or.inr ⟨h1.1, h2.1⟩
