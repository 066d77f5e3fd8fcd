/-! EXCEPTIONS of the class: rows to throw them, and to pass them on, where nothing has been written yet -/
def xT (P : String → Prop) : String → State → State → Prop := fun X st t => P X ∧ st.heap.size ≤ t.heap.size ∧ ∀ q, q < st.heap.size → t.heap[q]? = st.heap[q]?
def qR (v : Option Value) (C : Prop) : Array Value → State → Outcome → State → Prop := fun _ st o t => o = .returned v ∧ C ∧ t.heap = st.heap
abbrev nIOB : String := "java/lang/IndexOutOfBoundsException"
abbrev nISE : String := "java/lang/IllegalStateException"
abbrev nIAE : String := "java/lang/IllegalArgumentException"
abbrev nUOE : String := "java/lang/UnsupportedOperationException"
abbrev xnm : List String := ["java/lang/RuntimeException", "java/lang/Exception"]
theorem xg_IOB : ∀ w ∈ (vx_atS RX3 117 nIOB xnm).filter goodWord, w ∈ lw_G := by decide +kernel
theorem xn_IOB : ∀ w ∈ (vx_atS RX3 117 nIOB xnm).filter (fun w => !goodWord w), w ∈ kN := by decide +kernel
theorem xo_IOB : ∀ w ∈ Cond.classLink RX3 113 nIOB :: Cond.initialized nIOB :: vx_atS RX3 117 nIOB xnm, vx_ot w = true := by decide +kernel
theorem xg_ISE : ∀ w ∈ (vx_atS RX3 46 nISE xnm).filter goodWord, w ∈ lw_G := by decide +kernel
theorem xn_ISE : ∀ w ∈ (vx_atS RX3 46 nISE xnm).filter (fun w => !goodWord w), w ∈ kN := by decide +kernel
theorem xo_ISE : ∀ w ∈ Cond.classLink RX3 42 nISE :: Cond.initialized nISE :: vx_atS RX3 46 nISE xnm, vx_ot w = true := by decide +kernel
theorem xg_IAE : ∀ w ∈ (vx_atS RX3 60 nIAE xnm).filter goodWord, w ∈ lw_G := by decide +kernel
theorem xn_IAE : ∀ w ∈ (vx_atS RX3 60 nIAE xnm).filter (fun w => !goodWord w), w ∈ kN := by decide +kernel
theorem xo_IAE : ∀ w ∈ Cond.classLink RX3 56 nIAE :: Cond.initialized nIAE :: vx_atS RX3 60 nIAE xnm, vx_ot w = true := by decide +kernel
theorem xg_UOE : ∀ w ∈ (vx_atS RX3 96 nUOE xnm).filter goodWord, w ∈ lw_G := by decide +kernel
theorem xn_UOE : ∀ w ∈ (vx_atS RX3 96 nUOE xnm).filter (fun w => !goodWord w), w ∈ kN := by decide +kernel
theorem xo_UOE : ∀ w ∈ Cond.classLink RX3 92 nUOE :: Cond.initialized nUOE :: vx_atS RX3 96 nUOE xnm, vx_ot w = true := by decide +kernel
theorem kN_ot : ∀ w ∈ kN, w.onTables = true := by decide +kernel
section XTH
variable {p : Program} {l : Launch} {e : Env} {R : Room} {s : State} {m : MethodId} {args : Array Value} {below : List Frame} {meth : Method} {c : Code} {cells slots MC MS : Nat}
variable {cc : ByteArray} {pc : Nat} {ls : Array Slot} {rest : List Value} {D : va_G} {cA : Nat → ClassId} {sa : Nat → Nat} {lo : Nat} {PX : String → Prop} {Qc : Array Value → State → Outcome → State → Prop} {free : Addr → Prop}
theorem th_IOB (hx : p.tables.exec = Jvm.exec) (hb : c.code = cc) (hl : l.stackTraces = false) (hown : s.vm.findClass RX3 = some m.cls) (hG : ∀ w ∈ lw_G, w.before args s = true) (hN : KN D (kty cA) s) (hX : KX sa lo s) (hsize : ls.size = c.maxLocals) (k : Nat) {ix : Nat} {tx : String} (hs : kSt[k]? = some (ix, tx))
    (d0 : decode cc pc = .ok (.new 113, 3)) (d3 : decode cc (pc + 3) = .ok (.dup, 1)) (d4 : decode cc (pc + 4) = .ok (.ldc ix, 2)) (d6 : decode cc (pc + 6) = .ok (.invokespecial 117, 3)) (d9 : decode cc (pc + 9) = .ok (.athrow, 1))
    (hno : ∀ x ∈ c.exceptionTable.toList, False) (hf : 5 < R.frames) (hL : (rest.map fun v => v.category).sum + 82 ≤ R.locals) (h1 : cells + 1 ≤ R.cells) (h2 : slots + 6 ≤ R.slots) (hlocks : meth.locks = false) (hPX : PX nIOB) (h3 : cells + 1 ≤ MC) (h4 : slots + 6 ≤ MS) :
    W p l e R s m args below meth c s.heap [] cells slots (vx_MQ below Qc (xT PX) args s MC MS free) (F0 m pc ls rest) :=
  vx_throwS (A := fun q => lo ≤ q) (cls := nIOB) (names := xnm) hx hb hl hown (by decide +kernel) (by decide +kernel) (hG _ g_125) (hG _ g_9) (hX.1 k _ hs)
    (vx_hat (fun w hw => hG w (xg_IOB w hw)) xn_IOB (fun w hw => va_Nw.use (kN_ot w hw) (hN.2 w hw))) xo_IOB hX.2.1 hX.2.2 va_S.rf hsize d0 d3 d4 d6 d9 (fun x h => (hno x h).elim) hf hL h1 h2 hlocks (fun t _ hz hk => ⟨hPX, hz, hk⟩) (fun z h => nomatch h) h3 h4
theorem th_ISE (hx : p.tables.exec = Jvm.exec) (hb : c.code = cc) (hl : l.stackTraces = false) (hown : s.vm.findClass RX3 = some m.cls) (hG : ∀ w ∈ lw_G, w.before args s = true) (hN : KN D (kty cA) s) (hX : KX sa lo s) (hsize : ls.size = c.maxLocals) (k : Nat) {ix : Nat} {tx : String} (hs : kSt[k]? = some (ix, tx))
    (d0 : decode cc pc = .ok (.new 42, 3)) (d3 : decode cc (pc + 3) = .ok (.dup, 1)) (d4 : decode cc (pc + 4) = .ok (.ldc ix, 2)) (d6 : decode cc (pc + 6) = .ok (.invokespecial 46, 3)) (d9 : decode cc (pc + 9) = .ok (.athrow, 1))
    (hno : ∀ x ∈ c.exceptionTable.toList, False) (hf : 5 < R.frames) (hL : (rest.map fun v => v.category).sum + 82 ≤ R.locals) (h1 : cells + 1 ≤ R.cells) (h2 : slots + 6 ≤ R.slots) (hlocks : meth.locks = false) (hPX : PX nISE) (h3 : cells + 1 ≤ MC) (h4 : slots + 6 ≤ MS) :
    W p l e R s m args below meth c s.heap [] cells slots (vx_MQ below Qc (xT PX) args s MC MS free) (F0 m pc ls rest) :=
  vx_throwS (A := fun q => lo ≤ q) (cls := nISE) (names := xnm) hx hb hl hown (by decide +kernel) (by decide +kernel) (hG _ g_194) (hG _ g_10) (hX.1 k _ hs)
    (vx_hat (fun w hw => hG w (xg_ISE w hw)) xn_ISE (fun w hw => va_Nw.use (kN_ot w hw) (hN.2 w hw))) xo_ISE hX.2.1 hX.2.2 va_S.rf hsize d0 d3 d4 d6 d9 (fun x h => (hno x h).elim) hf hL h1 h2 hlocks (fun t _ hz hk => ⟨hPX, hz, hk⟩) (fun z h => nomatch h) h3 h4
theorem th_IAE (hx : p.tables.exec = Jvm.exec) (hb : c.code = cc) (hl : l.stackTraces = false) (hown : s.vm.findClass RX3 = some m.cls) (hG : ∀ w ∈ lw_G, w.before args s = true) (hN : KN D (kty cA) s) (hX : KX sa lo s) (hsize : ls.size = c.maxLocals) (k : Nat) {ix : Nat} {tx : String} (hs : kSt[k]? = some (ix, tx))
    (d0 : decode cc pc = .ok (.new 56, 3)) (d3 : decode cc (pc + 3) = .ok (.dup, 1)) (d4 : decode cc (pc + 4) = .ok (.ldc ix, 2)) (d6 : decode cc (pc + 6) = .ok (.invokespecial 60, 3)) (d9 : decode cc (pc + 9) = .ok (.athrow, 1))
    (hno : ∀ x ∈ c.exceptionTable.toList, False) (hf : 5 < R.frames) (hL : (rest.map fun v => v.category).sum + 82 ≤ R.locals) (h1 : cells + 1 ≤ R.cells) (h2 : slots + 6 ≤ R.slots) (hlocks : meth.locks = false) (hPX : PX nIAE) (h3 : cells + 1 ≤ MC) (h4 : slots + 6 ≤ MS) :
    W p l e R s m args below meth c s.heap [] cells slots (vx_MQ below Qc (xT PX) args s MC MS free) (F0 m pc ls rest) :=
  vx_throwS (A := fun q => lo ≤ q) (cls := nIAE) (names := xnm) hx hb hl hown (by decide +kernel) (by decide +kernel) (hG _ g_214) (hG _ g_11) (hX.1 k _ hs)
    (vx_hat (fun w hw => hG w (xg_IAE w hw)) xn_IAE (fun w hw => va_Nw.use (kN_ot w hw) (hN.2 w hw))) xo_IAE hX.2.1 hX.2.2 va_S.rf hsize d0 d3 d4 d6 d9 (fun x h => (hno x h).elim) hf hL h1 h2 hlocks (fun t _ hz hk => ⟨hPX, hz, hk⟩) (fun z h => nomatch h) h3 h4
theorem th_UOE (hx : p.tables.exec = Jvm.exec) (hb : c.code = cc) (hl : l.stackTraces = false) (hown : s.vm.findClass RX3 = some m.cls) (hG : ∀ w ∈ lw_G, w.before args s = true) (hN : KN D (kty cA) s) (hX : KX sa lo s) (hsize : ls.size = c.maxLocals) (k : Nat) {ix : Nat} {tx : String} (hs : kSt[k]? = some (ix, tx))
    (d0 : decode cc pc = .ok (.new 92, 3)) (d3 : decode cc (pc + 3) = .ok (.dup, 1)) (d4 : decode cc (pc + 4) = .ok (.ldc ix, 2)) (d6 : decode cc (pc + 6) = .ok (.invokespecial 96, 3)) (d9 : decode cc (pc + 9) = .ok (.athrow, 1))
    (hno : ∀ x ∈ c.exceptionTable.toList, False) (hf : 5 < R.frames) (hL : (rest.map fun v => v.category).sum + 82 ≤ R.locals) (h1 : cells + 1 ≤ R.cells) (h2 : slots + 6 ≤ R.slots) (hlocks : meth.locks = false) (hPX : PX nUOE) (h3 : cells + 1 ≤ MC) (h4 : slots + 6 ≤ MS) :
    W p l e R s m args below meth c s.heap [] cells slots (vx_MQ below Qc (xT PX) args s MC MS free) (F0 m pc ls rest) :=
  vx_throwS (A := fun q => lo ≤ q) (cls := nUOE) (names := xnm) hx hb hl hown (by decide +kernel) (by decide +kernel) (hG _ g_291) (hG _ g_12) (hX.1 k _ hs)
    (vx_hat (fun w hw => hG w (xg_UOE w hw)) xn_UOE (fun w hw => va_Nw.use (kN_ot w hw) (hN.2 w hw))) xo_UOE hX.2.1 hX.2.2 va_S.rf hsize d0 d3 d4 d6 d9 (fun x h => (hno x h).elim) hf hL h1 h2 hlocks (fun t _ hz hk => ⟨hPX, hz, hk⟩) (fun z h => nomatch h) h3 h4
end XTH
section XCL
variable {p : Program} {l : Launch} {e : Env} {R : Room} {s : State} {m : MethodId} {args : Array Value} {below : List Frame} {meth : Method} {c : Code} {cells slots MC MS : Nat}
variable {cc : ByteArray} {pc : Nat} {ls : Array Slot} {rest : List Value} {D : va_G} {cA : Nat → ClassId} {sa : Nat → Nat} {lo n : Nat} {adr : Nat → Nat} {E : Nat → va_E} {PX PX2 : String → Prop} {Qc : Array Value → State → Outcome → State → Prop} {free : Addr → Prop} {C : Prop}
/-- a static call of a check: on it goes, or the exception goes on to the caller -/
theorem wx_S {own : String} {y : MethodName} {bytes : ByteArray} {maxL nL na index mc ms : Nat} {ret : Option FieldType} {wy : Cond} {rm : Room} {As : List Value} {st0 : List Value}
    (hx : p.tables.exec = Jvm.exec) (hb : c.code = cc) (hml : c.maxLocals = nL) (hown : s.vm.findClass own = some m.cls) (hG : ∀ w ∈ lw_G, w.before args s = true) (hN : KN D (kty cA) s) (hX : KX sa lo s) (hP : va_P D kcl (wl adr n E) s.heap)
    (hM : vx_Met l y (wy :: lw_G) rm (va_Pc As (wdX D (kty cA) sa lo adr n E)) (qR none C) (xT PX) mc ms (fun _ => False)) (cw : CallB R s args own index y bytes maxL ret (wy :: lw_G) rm mc ms na ∧ (Cond.static y).before args s = true)
    (hn : As.length = na) (hsize : ls.size = nL) (hstack : st0 = As.reverse ++ rest) (hW : (rest.map fun v => v.category).sum ≤ 8) (hdg : decode cc pc = .ok (.invokestatic index, 3)) (hf : cells + mc ≤ R.cells ∧ slots + ms ≤ R.slots)
    (hno : ∀ x ∈ c.exceptionTable.toList, False) (hlocks : meth.locks = false) (h3 : cells + mc ≤ MC) (h4 : slots + ms ≤ MS) (hPX : ∀ X, PX X → PX2 X)
    (kk : C → W p l e R s m args below meth c s.heap [] (cells + mc) (slots + ms) (vx_MQ below Qc (xT PX2) args s MC MS free) (F0 m (pc + 3) ls rest)) : W p l e R s m args below meth c s.heap [] cells slots (vx_MQ below Qc (xT PX2) args s MC MS free) (F0 m pc ls st0) := by
  subst hstack
  intro T hT X
  rcases vx_runS (p := p) (l := l) (e := e) (R := R) (s := s) (m := m) (args := args) (below := below) (meth := meth) (c := c) (H := s.heap) (locs := []) (cells := cells) (slots := slots) (g := F0 m pc ls (As.reverse ++ rest)) (As := As) (rest := rest) ⟨hx, hb, hml, hown, hG⟩ hM cw ⟨wdX_blind, wdX_pre hN hX va_S.rf hP⟩ rfl hn hsize rfl (lv_room hW) hdg hf T hT X with ⟨v, st₀, t, T', L, h0, X', hL, e1, e2, ⟨hv, hC, hh⟩, st⟩ | ⟨q, st₀, t, T', L, F, ce, h0, X', hL, e1, e2, ⟨hp, hz, hk⟩, hce, hcv, hcl, st⟩
  · cases hv
    obtain ⟨t2, a1, b1⟩ := kk hC T' (by rw [e1, hh, h0]) (Stand.forget (locs := []) X' (fun q h => (hL q h).elim))
    exact ⟨t2, st t2 a1, b1⟩
  · obtain ⟨t2, a1, b1⟩ := vx_out (p := p) (l := l) (e := e) (R := R) (s := s) (m := m) (args := args) (below := below) (meth := meth) (c := c) (H := T'.heap) (locs := []) (cells := cells + mc) (slots := slots + ms) (Qc := Qc) (XC := xT PX2) (free := free) (mc := MC) (ms := MS) (pc := pc) (ls := ls) (rest := rest) (E := F) (ce := ce) (q := q) (fun x h => (hno x h).elim) hlocks (by rw [e1]; exact hce) hcv hcl
      (fun u hu _ => ⟨hPX F hp, by rw [hu, e1]; rw [h0] at hz; exact hz, fun q hq => by rw [hu, e1, ← h0]; exact hk q (by rw [h0]; exact hq)⟩) (fun z h => nomatch h) h3 h4 T' rfl (Stand.forget (locs := []) X' (fun q h => (hL q h).elim))
    exact ⟨t2, st.trans a1, b1⟩
end XCL
def inN (x : Int32) (n : Nat) : Bool := decide (0 ≤ x) && decide (x.toInt < n)
theorem inN_nI {j n : Nat} (h : j < n) (hn : n < 2 ^ 31) : inN (nI j) n = true := by
  unfold inN
  rw [decide_eq_true (nI_pos' (by omega)), decide_eq_true (by rw [nI_toInt (by omega)]; omega)]; rfl
theorem inN_of {x : Int32} {n : Nat} (h : inN x n = true) (hn : n < 2 ^ 31) : ∃ j : Nat, j < n ∧ x = nI j := by
  unfold inN at h
  simp only [Bool.and_eq_true, decide_eq_true_eq] at h
  exact vp_in_of (vp_in_iff.mpr ⟨by have := Int32.le_iff_toInt_le.mp h.1; exact this, h.2⟩) hn
theorem inN_neg {x : Int32} {n : Nat} (h : x < 0) : inN x n = false := by
  unfold inN
  rw [decide_eq_false (by intro h2; exact absurd h (Int32.not_lt.mpr h2))]; rfl
theorem inN_lt {x : Int32} {n : Nat} (hn : n < 2 ^ 31) (h : ¬ x < 0) : inN x n = true ↔ x < nI n := by
  unfold inN
  rw [decide_eq_true (Int32.not_lt.mp h), Bool.true_and, decide_eq_true_eq, Int32.lt_iff_toInt_lt, nI_toInt hn]
