/-! THE CLAIM OUT OF ONE WALK OF THE LAW'S BODY. Your part is whole_start (and what it stands on); all else here is the same for every law, but numbers. -/
def R_law : String := "TraceCacheLaw"
def lw_P (b : Addr) (xs : List Int32) (args : Array Value) (s : State) : Prop := args = #[.ref b] ∧ s.IntsAt b xs ∧ xs.length ≤ 2048 ∧ (Jvm.Cond.and given_1 narrow_1).before args s = true
/-- what a walk over the start with the record d0 says of its end, said of the start itself -/
theorem lw_closed {s t : State} {o : Outcome} {d0 : Drawn} {L : List Loc} {k n : Nat} (hd0 : s.drawn.sameBut d0 lw_cs) (hv : ∃ v, o = .returned v) (hW : (s.setDrawn d0).WarmedH t.vm) (hs : (s.setDrawn d0).sameButNew ({ t with vm := s.vm } : State) L k n) : State.butDraws s t lw_cs (fun t1 => Framed s o t1 L k n) := by
  have h2 : t.drawn = d0 := congrArg State.drawn hs.1
  refine ⟨⟨hv, hW, State.sameButNew.setDrawn hs s.drawn⟩, ?_, by decide⟩
  rw [h2]
  exact hd0
def lw_Q (_ : Array Value) (s : State) (o : Outcome) (t : State) : Prop := o = .returned (some (.int 1)) ∧ State.butDraws s t lw_cs (fun t1 => Framed s o t1 [] 601024 7293034)
def lw_Z (below : List Frame) (a : Array Value) (s : State) : State → Prop := fun t => ∃ o, t.status = .running ∧ Ended t below o ∧ lw_Q a s o t
/-- the law's own end, with 1 on the stack, nothing written that was there before, its room as the claim has it; d0: the record of draws at this point (at the entry s.drawn: begin with 'refine W.base ?_' and 'have hd0 := Drawn.sameBut.refl s.drawn lw_cs') -/
theorem lw_ret {p : Program} {l : Launch} {e : Env} {s : State} {m : MethodId} {below : List Frame} {meth : Method} {c : Code} {b : Nat} {d0 : Drawn} (hd0 : s.drawn.sameBut d0 lw_cs) (hx : p.tables.exec = Jvm.exec) (hb : c.code = code) (hr : meth.sig.returnType = ret) (hlocks : meth.locks = false) {pc : Nat} {H : Heap} {ls : Array Slot} (hdg : decode code pc = .ok (.ireturn, 1)) : W p l e room_1 (s.setDrawn d0) m #[Value.ref b] below meth c H [] 601024 7293034 (lw_Z below #[Value.ref b] s) (F0 m pc ls [.int 1]) := by
  intro T hT X
  obtain ⟨fs, hret, hrun, hended, hW, hframe⟩ := X.leave (v := some (.int 1)) (hlocks := hlocks) (fun h => by rw [hr] at h; cases h)
  have hmeth' : T.vm.method? m = some meth := X.method'
  refine ⟨T.setFrames fs, ?_, .returned (some (.int 1)), hrun, hended, rfl, lw_closed hd0 ⟨_, rfl⟩ hW hframe⟩
  jvm_step X.here [X.here.top, hx, hb, hdg, hmeth', hr, ret, narrow_b1]
  (try refine ⟨rfl, ?_⟩); (try refine ⟨rfl, ?_⟩)
  first | (intro acts; rw [hret _ acts rfl rfl rfl]) | rw [hret _ _ rfl rfl rfl]
  exact Steps.refl _
/-- what holds at the law's entry: the machine, the code, the tables' words (any of lw_tbl by 'hts w (by decide +kernel)'), the script of L ints xs at the cell b, what the Statement gives of the start (any of its parts by flat_of_before) -/
def lw_At (p : Program) (s : State) (m : MethodId) (meth : Method) (c : Code) (b L : Nat) (xs : Nat → Int32) : Prop :=
  p.tables.exec = Jvm.exec ∧ c.code = code ∧ meth.sig.returnType = ret ∧ c.maxLocals = 9 ∧ s.vm.findClass R_law = some m.cls ∧ (∀ w ∈ lw_tbl, w.before #[Value.ref b] s = true) ∧ va_X b L xs s s.heap ∧ b < s.heap.size ∧ meth.locks = false ∧ (Jvm.Cond.and given_1 narrow_1).before #[Value.ref b] s = true
-- ===== ZL: the law's loop: its kit =====
theorem z_rc {a : Nat} (h : a ≤ 601024) : a ≤ room_1.cells := h
theorem z_rs {a : Nat} (h : a ≤ 7293034) : a ≤ room_1.slots := h
/-- what holds at the law's entry, for any record of draws -/
def z_LF (s : State) (m : MethodId) (args : Array Value) (D : va_G) (tys : List (ClassId × FieldType)) (A : Nat → Prop) (b L : Nat) (xs : Nat → Int32) : Prop :=
  (∀ w ∈ wsL_law, w.before args s = true) ∧ s.vm.findClass RL = some m.cls ∧ pzN s ∧ va_K D vwCl tys s ∧ pzX A s s.heap ∧ pzNc s ∧ va_X b L xs s s.heap ∧ ∀ q : Nat, s.heap.size ≤ q → A q
theorem z_LF.dr {s : State} {m : MethodId} {args : Array Value} {D : va_G} {tys : List (ClassId × FieldType)} {A : Nat → Prop} {b L : Nat} {xs : Nat → Int32} (h : z_LF s m args D tys A b L xs) (d : Drawn) : z_LF (s.setDrawn d) m args D tys A b L xs := by
  obtain ⟨h1, h2, h3, h4, h5, h6, h7, h8⟩ := h
  refine ⟨dr_words h1 d, h2, h3.dr d, va_K_dr h4 d, ⟨pzR.same (show (s.setDrawn d).vm = s.vm from rfl) h5.1, vx_Zq.moved (u := s) (U := s.setDrawn d) (Vm.Alike.refl s.vm) h5.2.1, vx_Zq.moved (u := s) (U := s.setDrawn d) (Vm.Alike.refl s.vm) h5.2.2⟩, ⟨va_Nc.moved (u := s) (U := s.setDrawn d) (Vm.Alike.refl s.vm) h6.1, va_Nc.moved (u := s) (U := s.setDrawn d) (Vm.Alike.refl s.vm) h6.2⟩, ?_, h8⟩
  obtain ⟨scr, g1, g2, g3, g4, g5⟩ := h7
  exact ⟨scr, g1, g2, g3, g4, g5⟩
section ZLD
variable {p : Program} {l : Launch} {e : Env} {R : Room} {s : State} {m : MethodId} {args : Array Value} {below : List Frame} {meth : Method} {c : Code} {H : Heap} {locs : List Loc} {cells slots : Nat} {Q : State → Prop} {pc : Nat} {ls : Array Slot} {rest st0 : List Value} {a : Array Value} {A : Nat → Prop} {D : va_G} {tys : List (ClassId × FieldType)} {ws wsn x b y b1 : va_W} {mc ms : Nat} {d0 : Drawn}
theorem z_ad {post : UInt64 → Prop} (hd0 : s.drawn.sameBut d0 lw_cs) (hr : va_RunD lw_cs p l e R (s.setDrawn d0) m args below meth c H locs cells slots mc ms (F0 m pc ls st0) rest (va_Qd (fun v (_ : Unit) => post v) (fun _ t => pzB D tys (va_A b H.size) b1 t) (va_A b H.size) a) (va_A b H.size))
    (hP : va_P D vwCl ws H) (hD : va_D A ws) (hS : va_S A s.heap H locs) (hA : ∀ q, s.heap.size ≤ q → A q) (hws : ws = x ++ (b ++ y)) (hwn : wsn = x ++ (b1 ++ y))
    (kk : ∀ (v : UInt64) (H1 : Heap) (locs1 : List Loc) (d1 : Drawn), post v → s.drawn.sameBut d1 lw_cs → va_P D vwCl wsn H1 → va_D A wsn → va_S A s.heap H1 locs1 → W p l e R (s.setDrawn d1) m args below meth c H1 locs1 (cells + mc) (slots + ms) Q (F0 m (pc + 3) ls (.double v :: rest))) : W p l e R (s.setDrawn d0) m args below meth c H locs cells slots Q (F0 m pc ls st0) := by
  subst hws
  subst hwn
  have hF := pz_free hD hS hA
  refine va_calldD hd0 hr hS (fun q _ h => hF q h) hF (fun v u t H1 locs1 ht hvm hv hB hz1 hk1 hS d1 hd1 => ?_)
  obtain ⟨hP1, -, hD1⟩ := hB
  rw [ht] at hP1
  obtain ⟨hP, hD⟩ := pz_join hP hD hk1 hF hP1 hD1
  exact kk v H1 locs1 d1 hv hd1 hP hD hS
end ZLD
theorem z_nan {x : UInt64} (h : isNaN64 x = true) : FP.Core.decode FP.Core.b64 x.toNat = .nan := by
  have h1 := isNaN64_iff.mp h
  have h2 : x.toNat &&& 0x7fffffffffffffff = x.toNat % 9223372036854775808 := Nat.and_two_pow_sub_one_eq_mod x.toNat 63
  rw [h2] at h1
  have hE : FP.Core.fieldE FP.Core.b64 x.toNat = FP.Core.b64.exps - 1 := by
    show x.toNat / 4503599627370496 % 2048 = 2047
    omega
  have hT : ¬ FP.Core.fieldT FP.Core.b64 x.toNat = 0 := by
    show ¬ x.toNat % 4503599627370496 = 0
    omega
  unfold FP.Core.decode
  rw [if_pos hE, if_neg hT]
theorem z_dnan {x y : UInt64} (h : isNaN64 x = true) : ¬ Op.cmpValue (FP.dcmp x y) .l = 0 := by
  have h1 : FP.dcmp x y = none := by
    show FP.Core.order (FP.Core.decode FP.Core.b64 x.toNat) (FP.Core.decode FP.Core.b64 y.toNat) = none
    rw [z_nan h]
    rfl
  rw [h1]
  decide
/-- two answers of the same rate: equal, or both no number -/
theorem z_rt_two {ex ti : Int32} {v w : UInt64} (hv : z_rt ex ti v) (hw : z_rt ex ti w) : v = w ∨ (isNaN64 v = true ∧ isNaN64 w = true) := by
  by_cases h : ti = 0
  · exact Or.inl ((hv.1 h).trans (hw.1 h).symm)
  · have h1 := hv.2 h
    have h2 := hw.2 h
    simp only [alike64, Bool.or_eq_true, decide_eq_true_eq, Bool.and_eq_true] at h1 h2
    rcases h1 with h1 | h1 <;> rcases h2 with h2 | h2
    · exact Or.inl (h1.trans h2.symm)
    · exact Or.inr ⟨by rw [h1]; exact h2.2, h2.1⟩
    · exact Or.inr ⟨h1.1, by rw [h2]; exact h1.2⟩
    · exact Or.inr ⟨h1.1, h2.1⟩
