-- ===== PART A: goes FIRST, ahead of the names: the tables' words, and 'selects' of the private methods out of them =====
/-- a private method of a class that the tables say can be made, by its rows of tables_1 -/
def lw_okq (q : MethodName × Nat) : Prop := (q.1.cls ≠ "java/lang/invoke/MethodHandle" ∧ q.1.cls ≠ "java/lang/invoke/VarHandle") ∧ Cond.instantiable q.1.cls q.2 ∈ tables_1 ∧ Cond.privateMethod q.1 ∈ tables_1 ∧ Cond.instanceMethod q.1 ∈ tables_1
theorem lw_p0 : lw_okq (⟨"java/lang/Throwable", "fillInStackTrace", "(I)Ljava/lang/Throwable;"⟩, 6) := ⟨⟨by decide +kernel, by decide +kernel⟩, List.mem_of_getElem? (i := 165) (by decide +kernel), List.mem_of_getElem? (i := 163) (by decide +kernel), List.mem_of_getElem? (i := 164) (by decide +kernel)⟩
theorem lw_p1 : lw_okq (⟨"ToldRows", "hasRival", "(LToldRows$Desk;I)Z"⟩, 4) := ⟨⟨by decide +kernel, by decide +kernel⟩, List.mem_of_getElem? (i := 15) (by decide +kernel), List.mem_of_getElem? (i := 316) (by decide +kernel), List.mem_of_getElem? (i := 317) (by decide +kernel)⟩
theorem lw_p2 : lw_okq (⟨"ToldRows", "beginsConflict", "(LToldRows$Desk;I)Z"⟩, 4) := ⟨⟨by decide +kernel, by decide +kernel⟩, List.mem_of_getElem? (i := 15) (by decide +kernel), List.mem_of_getElem? (i := 374) (by decide +kernel), List.mem_of_getElem? (i := 375) (by decide +kernel)⟩
theorem lw_p3 : lw_okq (⟨"ToldRows", "findLast", "(LToldRows$Desk;II)I"⟩, 4) := ⟨⟨by decide +kernel, by decide +kernel⟩, List.mem_of_getElem? (i := 15) (by decide +kernel), List.mem_of_getElem? (i := 410) (by decide +kernel), List.mem_of_getElem? (i := 411) (by decide +kernel)⟩
theorem lw_p4 : lw_okq (⟨"ToldRows", "isLater", "(II)Z"⟩, 4) := ⟨⟨by decide +kernel, by decide +kernel⟩, List.mem_of_getElem? (i := 15) (by decide +kernel), List.mem_of_getElem? (i := 425) (by decide +kernel), List.mem_of_getElem? (i := 426) (by decide +kernel)⟩
theorem lw_p5 : lw_okq (⟨"ToldRows", "realTimeOf", "(I)I"⟩, 4) := ⟨⟨by decide +kernel, by decide +kernel⟩, List.mem_of_getElem? (i := 15) (by decide +kernel), List.mem_of_getElem? (i := 429) (by decide +kernel), List.mem_of_getElem? (i := 430) (by decide +kernel)⟩
theorem lw_p6 : lw_okq (⟨"ToldRows", "countsBy", "(LToldRows$Desk;II)Z"⟩, 4) := ⟨⟨by decide +kernel, by decide +kernel⟩, List.mem_of_getElem? (i := 15) (by decide +kernel), List.mem_of_getElem? (i := 451) (by decide +kernel), List.mem_of_getElem? (i := 452) (by decide +kernel)⟩
theorem lw_p7 : lw_okq (⟨"ToldRows", "hear", "(LToldRows$Desk;I)I"⟩, 4) := ⟨⟨by decide +kernel, by decide +kernel⟩, List.mem_of_getElem? (i := 15) (by decide +kernel), List.mem_of_getElem? (i := 481) (by decide +kernel), List.mem_of_getElem? (i := 482) (by decide +kernel)⟩
theorem lw_p8 : lw_okq (⟨"ToldRowsModel", "throwing", "(ZZZZ)Z"⟩, 16) := ⟨⟨by decide +kernel, by decide +kernel⟩, List.mem_of_getElem? (i := 488) (by decide +kernel), List.mem_of_getElem? (i := 558) (by decide +kernel), List.mem_of_getElem? (i := 559) (by decide +kernel)⟩
theorem lw_p9 : lw_okq (⟨"ToldRowsModel", "realOf", "(II)I"⟩, 16) := ⟨⟨by decide +kernel, by decide +kernel⟩, List.mem_of_getElem? (i := 488) (by decide +kernel), List.mem_of_getElem? (i := 566) (by decide +kernel), List.mem_of_getElem? (i := 567) (by decide +kernel)⟩
theorem lw_p10 : lw_okq (⟨"ToldRowsModel", "find", "(IIIII)I"⟩, 16) := ⟨⟨by decide +kernel, by decide +kernel⟩, List.mem_of_getElem? (i := 488) (by decide +kernel), List.mem_of_getElem? (i := 580) (by decide +kernel), List.mem_of_getElem? (i := 581) (by decide +kernel)⟩
theorem lw_p11 : lw_okq (⟨"ToldRowsModel", "has", "(II)Z"⟩, 16) := ⟨⟨by decide +kernel, by decide +kernel⟩, List.mem_of_getElem? (i := 488) (by decide +kernel), List.mem_of_getElem? (i := 584) (by decide +kernel), List.mem_of_getElem? (i := 585) (by decide +kernel)⟩
theorem lw_p12 : lw_okq (⟨"ToldRowsModel", "areRivals", "(II)Z"⟩, 16) := ⟨⟨by decide +kernel, by decide +kernel⟩, List.mem_of_getElem? (i := 488) (by decide +kernel), List.mem_of_getElem? (i := 588) (by decide +kernel), List.mem_of_getElem? (i := 589) (by decide +kernel)⟩
theorem lw_p13 : lw_okq (⟨"ToldRowsModel", "comes", "(II)V"⟩, 16) := ⟨⟨by decide +kernel, by decide +kernel⟩, List.mem_of_getElem? (i := 488) (by decide +kernel), List.mem_of_getElem? (i := 592) (by decide +kernel), List.mem_of_getElem? (i := 593) (by decide +kernel)⟩
theorem lw_p14 : lw_okq (⟨"ToldRowsModel", "sees", "(III)Z"⟩, 16) := ⟨⟨by decide +kernel, by decide +kernel⟩, List.mem_of_getElem? (i := 488) (by decide +kernel), List.mem_of_getElem? (i := 612) (by decide +kernel), List.mem_of_getElem? (i := 613) (by decide +kernel)⟩
theorem lw_p15 : lw_okq (⟨"ToldRowsModel", "lastOf", "(III)I"⟩, 16) := ⟨⟨by decide +kernel, by decide +kernel⟩, List.mem_of_getElem? (i := 488) (by decide +kernel), List.mem_of_getElem? (i := 628) (by decide +kernel), List.mem_of_getElem? (i := 629) (by decide +kernel)⟩
def lw_privs_1 : List (MethodName × Nat) := [(⟨"java/lang/Throwable", "fillInStackTrace", "(I)Ljava/lang/Throwable;"⟩, 6), (⟨"ToldRows", "hasRival", "(LToldRows$Desk;I)Z"⟩, 4), (⟨"ToldRows", "beginsConflict", "(LToldRows$Desk;I)Z"⟩, 4), (⟨"ToldRows", "findLast", "(LToldRows$Desk;II)I"⟩, 4), (⟨"ToldRows", "isLater", "(II)Z"⟩, 4), (⟨"ToldRows", "realTimeOf", "(I)I"⟩, 4), (⟨"ToldRows", "countsBy", "(LToldRows$Desk;II)Z"⟩, 4), (⟨"ToldRows", "hear", "(LToldRows$Desk;I)I"⟩, 4), (⟨"ToldRowsModel", "throwing", "(ZZZZ)Z"⟩, 16), (⟨"ToldRowsModel", "realOf", "(II)I"⟩, 16), (⟨"ToldRowsModel", "find", "(IIIII)I"⟩, 16), (⟨"ToldRowsModel", "has", "(II)Z"⟩, 16), (⟨"ToldRowsModel", "areRivals", "(II)Z"⟩, 16), (⟨"ToldRowsModel", "comes", "(II)V"⟩, 16), (⟨"ToldRowsModel", "sees", "(III)Z"⟩, 16), (⟨"ToldRowsModel", "lastOf", "(III)I"⟩, 16)]
theorem lw_r1 : ∀ q ∈ lw_privs_1, lw_okq q := List.forall_mem_cons.mpr ⟨lw_p0, List.forall_mem_cons.mpr ⟨lw_p1, List.forall_mem_cons.mpr ⟨lw_p2, List.forall_mem_cons.mpr ⟨lw_p3, List.forall_mem_cons.mpr ⟨lw_p4, List.forall_mem_cons.mpr ⟨lw_p5, List.forall_mem_cons.mpr ⟨lw_p6, List.forall_mem_cons.mpr ⟨lw_p7, List.forall_mem_cons.mpr ⟨lw_p8, List.forall_mem_cons.mpr ⟨lw_p9, List.forall_mem_cons.mpr ⟨lw_p10, List.forall_mem_cons.mpr ⟨lw_p11, List.forall_mem_cons.mpr ⟨lw_p12, List.forall_mem_cons.mpr ⟨lw_p13, List.forall_mem_cons.mpr ⟨lw_p14, List.forall_mem_cons.mpr ⟨lw_p15, fun _ h => absurd h List.not_mem_nil⟩⟩⟩⟩⟩⟩⟩⟩⟩⟩⟩⟩⟩⟩⟩⟩
theorem lw_p16 : lw_okq (⟨"ToldRowsModel", "counts", "(III)Z"⟩, 16) := ⟨⟨by decide +kernel, by decide +kernel⟩, List.mem_of_getElem? (i := 488) (by decide +kernel), List.mem_of_getElem? (i := 632) (by decide +kernel), List.mem_of_getElem? (i := 633) (by decide +kernel)⟩
theorem lw_p17 : lw_okq (⟨"ToldRowsModel", "isLater", "(II)Z"⟩, 16) := ⟨⟨by decide +kernel, by decide +kernel⟩, List.mem_of_getElem? (i := 488) (by decide +kernel), List.mem_of_getElem? (i := 636) (by decide +kernel), List.mem_of_getElem? (i := 637) (by decide +kernel)⟩
theorem lw_p18 : lw_okq (⟨"ToldRowsModel", "hasNumber", "(III)Z"⟩, 16) := ⟨⟨by decide +kernel, by decide +kernel⟩, List.mem_of_getElem? (i := 488) (by decide +kernel), List.mem_of_getElem? (i := 652) (by decide +kernel), List.mem_of_getElem? (i := 653) (by decide +kernel)⟩
def lw_privs_2 : List (MethodName × Nat) := [(⟨"ToldRowsModel", "counts", "(III)Z"⟩, 16), (⟨"ToldRowsModel", "isLater", "(II)Z"⟩, 16), (⟨"ToldRowsModel", "hasNumber", "(III)Z"⟩, 16)]
theorem lw_r2 : ∀ q ∈ lw_privs_2, lw_okq q := List.forall_mem_cons.mpr ⟨lw_p16, List.forall_mem_cons.mpr ⟨lw_p17, List.forall_mem_cons.mpr ⟨lw_p18, fun _ h => absurd h List.not_mem_nil⟩⟩⟩
def lw_privs : List (MethodName × Nat) := lw_privs_1 ++ (lw_privs_2)
def lw_tbl : List Cond := k2_sels lw_privs ++ tables_1
theorem lw_privs_ok : ∀ q ∈ lw_privs, lw_okq q := by
  show ∀ q ∈ lw_privs_1 ++ (lw_privs_2), lw_okq q
  exact List.forall_mem_append.mpr ⟨lw_r1, lw_r2⟩
/-! ===== BEGIN words of one list among another's, by their places ===== -/
theorem goodIn_r {big : List Cond} (ws : List Cond) (ps : List Nat) (hp : ws = ps.filterMap (fun i => big[i]?)) (h : ws.all goodWord = true) : GoodIn big ws := by
  intro w hw
  have h1 := List.all_eq_true.mp h w hw
  rw [hp] at hw
  obtain ⟨i, -, hi⟩ := List.mem_filterMap.mp hw
  have hm : w ∈ big := by first | exact List.mem_of_getElem? hi | exact List.getElem?_mem hi
  exact ⟨hm, good_of_word h1⟩
theorem goodIn_app {big a b : List Cond} (ha : GoodIn big a) (hb : GoodIn big b) : GoodIn big (a ++ b) := fun w h => (List.mem_append.mp h).elim (ha w) (hb w)
theorem goodIn_ca {big a b : List Cond} {c : Cond} (ha : GoodIn big (c :: a)) (hb : GoodIn big b) : GoodIn big (c :: (a ++ b)) := fun w h => (List.mem_cons.mp h).elim (fun e => ha w (List.mem_cons.mpr (Or.inl e))) (fun h => (List.mem_append.mp h).elim (fun h => ha w (List.mem_cons.mpr (Or.inr h))) (hb w))
theorem goodIn_sub {big ws : List Cond} (hm : ∀ w ∈ ws, w ∈ big) (h : ws.all goodWord = true) : GoodIn big ws := fun w hw => ⟨hm w hw, good_of_word (List.all_eq_true.mp h w hw)⟩
/-! ===== END ===== -/

/-! ===== BEGIN exceptions that leave a method, and their catching by the caller (launches without stack traces) ===== -/
section VXA
/-! The laws vx_back, vx_callV, vx_callS, vx_callSW, vx_throw0, vx_throwS follow proofs of the library, with one case more: JvmDerived/Free/Laws.lean (Back.of_free), Shelf42/LK1.lean (callV, callS), Shelf/KitTraced.lean (throwNew0V, throwNewS). -/
/-- where a method has thrown q: the class by its name, the cell, what was written, the world -/
def vx_T (XC : String → State → State → Prop) (st : State) (q : Addr) (t : State) (mc ms : Nat) (free : Addr → Prop) : Prop :=
  ∃ (E : String) (ce : Cell) (L : List Loc), XC E st t ∧ t.heap[q]? = some ce ∧ ce.vm = .none ∧ st.vm.findClass E = some ce.cls ∧ st.WarmedH t.vm ∧ st.sameButNew ({ t with vm := st.vm } : State) L mc ms ∧ ∀ z ∈ L, free z.base
def vx_Q (Qc : Array Value → State → Outcome → State → Prop) (XC : String → State → State → Prop) (mc ms : Nat) (free : Addr → Prop) : Array Value → State → Outcome → State → Prop := fun a st o t =>
  (Qc a st o t ∧ ∃ L, FrameEnd st o t L mc ms ∧ ∀ q ∈ L, free q.base) ∨ ∃ q, o = .threw q ∧ vx_T XC st q t mc ms free
/-- a callee that returns or throws -/
def vx_Met (l : Launch) (y : MethodName) (ws : List Cond) (rm : Room) (Pc : Array Value → State → Prop) (Qc : Array Value → State → Outcome → State → Prop) (XC : String → State → State → Prop) (mc ms : Nat) (free : Addr → Prop) : Prop :=
  MetFree l y (headSpec ws rm) Pc (fun _ _ _ _ _ => True) (vx_Q Qc XC mc ms free)
def vx_Post (XC : String → State → State → Prop) (mc ms : Nat) (free : Addr → Prop) : Pt → Array Value → Addr → Pt → Prop := fun A a q B =>
  ∃ (g : JFrame) (mk : MethodId) (t : State) (L : List Loc) (E : String) (ce : Cell), B.U.heap = t.heap ∧ B.U.vm = t.vm ∧ XC E (A.U.calling g mk a) t ∧ t.heap[q]? = some ce ∧ ce.vm = .none ∧ A.U.vm.findClass E = some ce.cls ∧ B.locs = A.locs ++ L ∧ (∀ z ∈ L, free z.base) ∧ B.cells = A.cells + mc ∧ B.slots = A.slots + ms
def vx_Back (l : Launch) (R : Room) (p : Program) (e : Env) (below : List Frame) (s : State) (sargs : Array Value) (y : MethodName) (len W9 : Nat)
    (Pre : Pt → Array Value → Prop) (Post : Pt → Array Value → Option Value → Pt → Prop) (PostX : Pt → Array Value → Addr → Pt → Prop) : Prop :=
  ∀ (m : MethodId) (meth : Method) (c : Code) (A : Pt) (g : JFrame) (ig : Instr) (mk : MethodId) (a : Array Value),
    Stand p l e R s m sargs below meth c A.U A.locs A.cells A.slots → g.method = m → g.locals.size = c.maxLocals → decode c.code g.pc = .ok (ig, len) →
    2 * g.monitorRoom + (g.stack.map fun v => v.category).sum ≤ W9 → A.U.methodNamed? y = some mk → Pre A a →
    (∃ (v : Option Value) (B : Pt), Stand p l e R s m sargs below meth c B.U B.locs B.cells B.slots ∧ Post A a v B ∧
      Steps p.tables e below (doInvoke e (A.U.setTop g) [] mk a).1 (B.U.setTop { g with pc := g.pc + len, stack := v.toList ++ g.stack })) ∨
    (∃ (q : Addr) (B : Pt), Stand p l e R s m sargs below meth c B.U B.locs B.cells B.slots ∧ PostX A a q B ∧
      Steps p.tables e below (doInvoke e (A.U.setTop g) [] mk a).1 ((B.U.setTop g).pushFrame (.throwing q)))
section Payer
variable {l : Launch} {R : Room} {p : Program} {e : Env} {below : List Frame} {s : State} {sargs : Array Value} {y : MethodName} {len W9 : Nat}
theorem vx_back {ws : List Cond} {rm : Room} {Pc : Array Value → State → Prop} {Qc : Array Value → State → Outcome → State → Prop} {XC : String → State → State → Prop} {mc ms : Nat} {free : Addr → Prop} {bytes : ByteArray} {maxL : Nat} {ret : Option FieldType}
    (hM : vx_Met l y ws rm Pc Qc XC mc ms free) (hblind : FrameBlind Pc) (hrc : rm.cells = mc) (hrs : rm.slots = ms)
    (hframes : rm.frames + 1 ≤ R.frames) (hlocals : W9 + (maxL + 11) + rm.locals ≤ R.locals)
    (hws : ∀ w ∈ ws, ∀ a' U, s.WarmedH U.vm → w.before a' U = true) (hcode : Cond.code y bytes maxL ret ∈ ws) (hinit : ∀ a' U, s.WarmedH U.vm → (Cond.initialized y.cls).before a' U = true) :
    vx_Back l R p e below s sargs y len W9 (PreOf R mc ms Pc) (PostOf Qc mc ms free) (vx_Post XC mc ms free) := by
  intro m meth c A g ig mk a X hg hsize hdg hW hn hp
  have h1 : (headSpec ws rm).pre.before a A.U = true := atoms_intro fun w hw => hws w hw _ _ X.warmed
  have h2 : (Cond.code y bytes maxL ret).before a A.U = true := hws _ hcode _ _ X.warmed
  have h3 : (Cond.initialized y.cls).before a A.U = true := hinit _ _ X.warmed
  have h4 : A.cells + (headSpec ws rm).room.cells ≤ R.cells := by rw [show (headSpec ws rm).room.cells = mc from hrc]; exact hp.1
  have h5 : A.slots + (headSpec ws rm).room.slots ≤ R.slots := by rw [show (headSpec ws rm).room.slots = ms from hrs]; exact hp.2.1
  have hPc : Pc a (A.U.calling g mk a) := hblind _ _ _ _ hp.2.2
  obtain ⟨U, Ls, c0, s0⟩ := A
  dsimp only [Pt.U, Pt.locs, Pt.cells, Pt.slots] at h1 h2 h3 h4 h5 X hn hPc ⊢
  obtain ⟨methY, cY, hmY, hcY, -, hlY, -, -, -, -⟩ := Cond.code_spec hn h2
  obtain ⟨kY, hkY, -⟩ := className_of_methodNamed hn
  have hinitY : kY.init = .initialized := Cond.initialized_spec (findClass_of_methodNamed hn) hkY h3
  have h : At U g.method c below := by rw [hg]; exact X.here
  have hlocals9 : W9 + (maxL + 11) + (headSpec ws rm).room.locals ≤ R.locals := hlocals
  have happ : (headSpec ws rm).appliesLoose y e.platform (U.calling g mk a) = true :=
    Spec.appliesLoose_calling (g := g) h hdg hn hkY hinitY
      (X.room_calling (g := g) (R' := (headSpec ws rm).room) hsize hmY hcY hframes (by rw [hlY]; omega) h4 h5) h1
  obtain ⟨mid, hmid⟩ := h.above
  have hfr : (U.setTop g).frames = (.java g :: mid) ++ below := by rw [State.frames_setTop' g h.top, hmid]; rfl
  obtain ⟨o, s₂, hsteps, -, hend, hq⟩ := Steps.callFree hM p X.admits X.cas X.clock (acts := []) hfr happ hPc trivial
  have hq' : vx_Q Qc XC mc ms free a (U.calling g mk a) o s₂ := hq
  rw [State.frames_setTop' g h.top] at hend
  obtain ⟨g₀, hg0⟩ := Option.isSome_iff_exists.mp h.top
  obtain ⟨r, hr⟩ := State.topJava?_eq_some.mp hg0
  have hr' : (({ U with heap := s₂.heap, slotsUsed := s₂.slotsUsed } : State).setVm s₂.vm).frames = .java g₀ :: r := hr
  rcases hq' with ⟨hqc, L, hfe, hL⟩ | ⟨q, rfl, E, ce, L, hx, hce, hcv, hcl, hW₂, hsm, hL⟩
  · obtain ⟨⟨v, rfl⟩, hW₂, e2, q2, q3, q4, q5, q6⟩ := id hfe
    have e3 : s₂ = ({ (U.calling g mk a).setFrames s₂.frames with heap := s₂.heap, slotsUsed := s₂.slotsUsed } : State).setVm s₂.vm := by
      have : s₂ = ({ s₂ with vm := (U.calling g mk a).vm } : State).setVm s₂.vm := rfl
      rw [e2] at this
      exact this
    obtain ⟨c₂, i₂, len₂, hc₂, hd₂, hf₂⟩ := hend
    have hW' : U.WarmedH s₂.vm := hW₂
    have hcc : c₂ = c := by
      have h1 : s₂.code? g.method = U.code? g.method := by
        rw [State.code?_eq, State.code?_eq, hW'.alike.method?]
      exact Option.some.inj (hc₂.symm.trans (h1.trans h.code))
    subst hcc
    have hlen : len₂ = len := by rw [hdg] at hd₂; cases hd₂; rfl
    subst hlen
    have hs₂ : s₂ = (({ U with heap := s₂.heap, slotsUsed := s₂.slotsUsed } : State).setVm s₂.vm).setTop { g with pc := g.pc + len₂, stack := v.toList ++ g.stack } := by
      refine e3.trans ?_
      rw [hf₂, State.calling_eq h.top, State.setFrames_setFrames, State.setTop_of_frames _ hr', hr]
      rfl
    have hsame : U.sameButNew ({ U with heap := s₂.heap, slotsUsed := s₂.slotsUsed } : State) L mc ms := by
      refine ⟨?_, q2, q3, q4, q5, q6⟩
      obtain ⟨t, ht, -⟩ := State.frames_cons hr
      show ({ U with heap := s₂.heap, slotsUsed := s₂.slotsUsed } : State) = { U.setFrames U.frames with heap := s₂.heap, slotsUsed := s₂.slotsUsed }
      rw [State.setFrames_self ht]
    subst hg
    refine Or.inl ⟨v, ⟨(({ U with heap := s₂.heap, slotsUsed := s₂.slotsUsed } : State).setVm s₂.vm), Ls ++ L, c0 + mc, s0 + ms⟩,
      ⟨X.admits, X.cas, X.clock, X.frames, X.room, X.hears, X.method, X.code, (X.here.setHeapUsed s₂.heap s₂.slotsUsed).setVm hW'.alike, X.tail, State.WarmedH.trans X.warmed hW', X.limits, X.bytes, X.same.trans (hsame.setVm s.vm)⟩,
      ⟨g, mk, s₂, L, rfl, rfl, hqc, rfl, hL, rfl, rfl⟩, ?_⟩
    show Steps p.tables e below _ ((({ U with heap := s₂.heap, slotsUsed := s₂.slotsUsed } : State).setVm s₂.vm).setTop { g with pc := g.pc + len₂, stack := v.toList ++ g.stack })
    rw [← hs₂]
    exact hsteps
  · obtain ⟨e2, q2, q3, q4, q5, q6⟩ := id hsm
    have e3 : s₂ = ({ (U.calling g mk a).setFrames s₂.frames with heap := s₂.heap, slotsUsed := s₂.slotsUsed } : State).setVm s₂.vm := by
      have : s₂ = ({ s₂ with vm := (U.calling g mk a).vm } : State).setVm s₂.vm := rfl
      rw [e2] at this
      exact this
    have hf₂ : s₂.frames = .throwing q :: .java g :: U.frames.tail := hend
    have hW' : U.WarmedH s₂.vm := hW₂
    have hs₂ : s₂ = ((({ U with heap := s₂.heap, slotsUsed := s₂.slotsUsed } : State).setVm s₂.vm).setTop g).pushFrame (.throwing q) := by
      refine e3.trans ?_
      rw [hf₂, State.calling_eq h.top, State.setFrames_setFrames, State.pushFrame, State.frames_setTop _ hr', State.setTop_of_frames _ hr', State.setFrames_setFrames, hr]
      rfl
    have hsame : U.sameButNew ({ U with heap := s₂.heap, slotsUsed := s₂.slotsUsed } : State) L mc ms := by
      refine ⟨?_, q2, q3, q4, q5, q6⟩
      obtain ⟨t, ht, -⟩ := State.frames_cons hr
      show ({ U with heap := s₂.heap, slotsUsed := s₂.slotsUsed } : State) = { U.setFrames U.frames with heap := s₂.heap, slotsUsed := s₂.slotsUsed }
      rw [State.setFrames_self ht]
    subst hg
    refine Or.inr ⟨q, ⟨(({ U with heap := s₂.heap, slotsUsed := s₂.slotsUsed } : State).setVm s₂.vm), Ls ++ L, c0 + mc, s0 + ms⟩,
      ⟨X.admits, X.cas, X.clock, X.frames, X.room, X.hears, X.method, X.code, (X.here.setHeapUsed s₂.heap s₂.slotsUsed).setVm hW'.alike, X.tail, State.WarmedH.trans X.warmed hW', X.limits, X.bytes, X.same.trans (hsame.setVm s.vm)⟩,
      ⟨g, mk, s₂, L, E, ce, rfl, rfl, hx, hce, hcv, hcl, rfl, hL, rfl, rfl⟩, ?_⟩
    show Steps p.tables e below _ (((({ U with heap := s₂.heap, slotsUsed := s₂.slotsUsed } : State).setVm s₂.vm).setTop g).pushFrame (.throwing q))
    rw [← hs₂]
    exact hsteps
end Payer
section Calls
variable {p : Program} {l : Launch} {e : Env} {R : Room} {s : State} {m : MethodId} {args : Array Value} {below : List Frame} {meth : Method} {c : Code} {T : State} {locs : List Loc} {cells slots : Nat}
theorem vx_callV (X : Stand p l e R s m args below meth c T locs cells slots) (hexec : p.tables.exec = Jvm.exec) {own C : String} {index : Nat} {y : MethodName} {bytes : ByteArray} {maxL : Nat} {ret : Option FieldType}
    (hown : s.vm.findClass own = some m.cls) (hlink : (Cond.methodLink own index y).before args s = true) (hinst : (Cond.instanceMethod y).before args s = true) (hsel : (Cond.selects C y y).before args s = true)
    (hcode : (Cond.code y bytes maxL ret).before args s = true) (hy : y.cls ≠ "java/lang/invoke/MethodHandle" ∧ y.cls ≠ "java/lang/invoke/VarHandle")
    {W9 : Nat} {Pre : Pt → Array Value → Prop} {Post : Pt → Array Value → Option Value → Pt → Prop} {PostX : Pt → Array Value → Addr → Pt → Prop} (hK : vx_Back l R p e below s args y 3 W9 Pre Post PostX)
    {b : Addr} {cellB : Cell} (hcell : T.heap[b]? = some cellB) (hobj : cellB.vm.isStatics = false) (hcls : s.vm.findClass C = some cellB.cls)
    {g : JFrame} (hg : g.method = m) (hsize : g.locals.size = c.maxLocals) {argsL rest : List Value} (hlen : ∀ sig, parseMethodDescriptor y.desc = some sig → argsL.length = sig.parameters.length)
    (hstack : g.stack = argsL.reverse ++ .ref b :: rest) (hW : 2 * g.monitorRoom + (rest.map fun v => v.category).sum ≤ W9) (hdg : decode c.code g.pc = .ok (.invokevirtual index, 3))
    (hpre : ∀ vm₁, s.WarmedH vm₁ → Pre ⟨T.setVm vm₁, locs, cells, slots⟩ (Value.ref b :: argsL).toArray) :
    (∃ (v : Option Value) (vm₁ : Vm) (B : Pt), s.WarmedH vm₁ ∧ Stand p l e R s m args below meth c B.U B.locs B.cells B.slots ∧ Post ⟨T.setVm vm₁, locs, cells, slots⟩ (Value.ref b :: argsL).toArray v B ∧
      ∀ target, Steps p.tables e below (B.U.setTop { g with pc := g.pc + 3, stack := v.toList ++ rest }) target → Steps p.tables e below (T.setTop g) target) ∨
    (∃ (q : Addr) (vm₁ : Vm) (B : Pt), s.WarmedH vm₁ ∧ Stand p l e R s m args below meth c B.U B.locs B.cells B.slots ∧ PostX ⟨T.setVm vm₁, locs, cells, slots⟩ (Value.ref b :: argsL).toArray q B ∧
      Steps p.tables e below (T.setTop g) ((B.U.setTop { g with stack := rest }).pushFrame (.throwing q))) := by
  obtain ⟨mk, methM, hnamed, hmethM, hstM, habM⟩ := Cond.instanceMethod_spec hinst
  obtain ⟨methM', cM, hmethM', -, -, -, -, -, -, hsigM⟩ := Cond.code_spec hnamed hcode
  cases hmethM.symm.trans hmethM'
  obtain ⟨c2, r2, m2, q1, q2, q3, q4, kP, hkP, hkPi⟩ := Cond.selects_spec hsel
  cases hcls.symm.trans q1
  cases (State.methodFound?_of_named hnamed hy).symm.trans q2
  cases hnamed.symm.trans q3
  have hselP : selectMethod e.platform s.vm cellB.cls mk = .method mk := by rw [Launch.admits_selectMethod X.admits]; exact q4
  obtain ⟨vm₁, X₁, hstep₁⟩ := X.invokevirtual hexec hown hlink hnamed hmethM hstM hkP hkPi hy (a := b) (cell := cellB) hcell
    (fun z h => by rw [h] at hobj; cases hobj) hselP hmethM habM hkP hkPi (g := g) hg (argsL := argsL) (rest := rest) (hlen _ hsigM) hstack hdg
  rcases hK m meth c ⟨T.setVm vm₁, locs, cells, slots⟩ { g with stack := rest } (.invokevirtual index) mk (Value.ref b :: argsL).toArray X₁ hg hsize hdg hW (X₁.named hnamed) (hpre vm₁ X₁.warmed) with ⟨v, B, X', hpost, hsteps⟩ | ⟨q, B, X', hpost, hsteps⟩
  · exact Or.inl ⟨v, vm₁, B, X₁.warmed, X', hpost, fun target h => hstep₁ _ fun acts => by rw [doInvoke_state]; exact hsteps.trans h⟩
  · exact Or.inr ⟨q, vm₁, B, X₁.warmed, X', hpost, hstep₁ _ fun acts => by rw [doInvoke_state]; exact hsteps⟩
theorem vx_callS (X : Stand p l e R s m args below meth c T locs cells slots) (hexec : p.tables.exec = Jvm.exec) {own : String} {index : Nat} {y : MethodName} {bytes : ByteArray} {maxL : Nat} {ret : Option FieldType}
    (hown : s.vm.findClass own = some m.cls) (hlink : (Cond.methodLink own index y).before args s = true) (hstat : (Cond.static y).before args s = true) (hinit : (Cond.initialized y.cls).before args s = true)
    (hcode : (Cond.code y bytes maxL ret).before args s = true) (hy : y.cls ≠ "java/lang/invoke/MethodHandle" ∧ y.cls ≠ "java/lang/invoke/VarHandle")
    {W9 : Nat} {Pre : Pt → Array Value → Prop} {Post : Pt → Array Value → Option Value → Pt → Prop} {PostX : Pt → Array Value → Addr → Pt → Prop} (hK : vx_Back l R p e below s args y 3 W9 Pre Post PostX)
    {g : JFrame} (hg : g.method = m) (hsize : g.locals.size = c.maxLocals) {argsL rest : List Value} (hlen : ∀ sig, parseMethodDescriptor y.desc = some sig → argsL.length = sig.parameters.length)
    (hstack : g.stack = argsL.reverse ++ rest) (hW : 2 * g.monitorRoom + (rest.map fun v => v.category).sum ≤ W9) (hdg : decode c.code g.pc = .ok (.invokestatic index, 3))
    (hpre : ∀ vm₁, s.WarmedH vm₁ → Pre ⟨T.setVm vm₁, locs, cells, slots⟩ argsL.toArray) :
    (∃ (v : Option Value) (vm₁ : Vm) (B : Pt), s.WarmedH vm₁ ∧ Stand p l e R s m args below meth c B.U B.locs B.cells B.slots ∧ Post ⟨T.setVm vm₁, locs, cells, slots⟩ argsL.toArray v B ∧
      ∀ target, Steps p.tables e below (B.U.setTop { g with pc := g.pc + 3, stack := v.toList ++ rest }) target → Steps p.tables e below (T.setTop g) target) ∨
    (∃ (q : Addr) (vm₁ : Vm) (B : Pt), s.WarmedH vm₁ ∧ Stand p l e R s m args below meth c B.U B.locs B.cells B.slots ∧ PostX ⟨T.setVm vm₁, locs, cells, slots⟩ argsL.toArray q B ∧
      Steps p.tables e below (T.setTop g) ((B.U.setTop { g with stack := rest }).pushFrame (.throwing q))) := by
  obtain ⟨mk, hnamed⟩ := Cond.code_named hcode
  obtain ⟨methM, cM, hmethM, -, -, -, -, -, -, hsigM⟩ := Cond.code_spec hnamed hcode
  have hstatic : methM.isStatic = true := Cond.static_spec hnamed hmethM hstat
  obtain ⟨kP, hkP, -⟩ := className_of_methodNamed hnamed
  have hinitP : kP.init = .initialized := Cond.initialized_spec (findClass_of_methodNamed hnamed) hkP hinit
  obtain ⟨vm₁, X₁, hstep₁⟩ := X.invokestatic hexec hown hlink hnamed hmethM hstatic hkP hinitP hy (g := g) hg (argsL := argsL) (rest := rest) (hlen _ hsigM) hstack hdg
  rcases hK m meth c ⟨T.setVm vm₁, locs, cells, slots⟩ { g with stack := rest } (.invokestatic index) mk argsL.toArray X₁ hg hsize hdg hW (X₁.named hnamed) (hpre vm₁ X₁.warmed) with ⟨v, B, X', hpost, hsteps⟩ | ⟨q, B, X', hpost, hsteps⟩
  · exact Or.inl ⟨v, vm₁, B, X₁.warmed, X', hpost, fun target h => hstep₁ _ fun acts => by rw [doInvoke_state]; exact hsteps.trans h⟩
  · exact Or.inr ⟨q, vm₁, B, X₁.warmed, X', hpost, hstep₁ _ fun acts => by rw [doInvoke_state]; exact hsteps⟩
end Calls
theorem vx_cls {s : State} {T : State} {vm₁ : Vm} {E : String} {k : ClassId} (hW : s.WarmedH vm₁) (h : (T.setVm vm₁).vm.findClass E = some k) : s.vm.findClass E = some k := by
  have h1 : vm₁.findClass E = some k := h
  rw [hW.alike.findClass] at h1
  exact h1
/-- the method's frame g, with q thrown over it -/
def vx_W (p : Program) (l : Launch) (e : Env) (R : Room) (s : State) (m : MethodId) (args : Array Value) (below : List Frame) (meth : Method) (c : Code) (H : Heap) (locs : List Loc) (cells slots : Nat) (Q : State → Prop) (g : JFrame) (q : Addr) : Prop :=
  ∀ T : State, T.heap = H → Stand p l e R s m args below meth c T locs cells slots → ∃ t, Steps p.tables e below ((T.setTop g).pushFrame (.throwing q)) t ∧ Q t
def vx_Run (p : Program) (l : Launch) (e : Env) (R : Room) (s : State) (m : MethodId) (args : Array Value) (below : List Frame) (meth : Method) (c : Code) (H : Heap) (locs : List Loc) (cells slots mc ms : Nat) (g : JFrame) (rest : List Value) (Qa : State → Outcome → State → Prop) (XC : String → State → State → Prop) (free : Addr → Prop) : Prop :=
  ∀ T : State, T.heap = H → Stand p l e R s m args below meth c T locs cells slots →
    (∃ (v : Option Value) (st₀ t T' : State) (L : List Loc), st₀.heap = H ∧ Stand p l e R s m args below meth c T' (locs ++ L) (cells + mc) (slots + ms) ∧ (∀ q ∈ L, free q.base) ∧ T'.heap = t.heap ∧ T'.vm = t.vm ∧ Qa st₀ (.returned v) t ∧
      Goes p e below T g T' { g with pc := g.pc + 3, stack := v.toList ++ rest }) ∨
    (∃ (q : Addr) (st₀ t T' : State) (L : List Loc) (E : String) (ce : Cell), st₀.heap = H ∧ Stand p l e R s m args below meth c T' (locs ++ L) (cells + mc) (slots + ms) ∧ (∀ z ∈ L, free z.base) ∧ T'.heap = t.heap ∧ T'.vm = t.vm ∧ XC E st₀ t ∧ t.heap[q]? = some ce ∧ ce.vm = .none ∧ s.vm.findClass E = some ce.cls ∧
      Steps p.tables e below (T.setTop g) ((T'.setTop { g with stack := rest }).pushFrame (.throwing q)))
def vx_X {S : Type} (px : S → Prop) (B : String → S → State → Prop) (A : Nat → Prop) : String → State → State → Prop := fun E st t => ∃ u : S, px u ∧ B E u t ∧ va_F A st t
section Runs
variable {p : Program} {l : Launch} {e : Env} {R : Room} {s : State} {m : MethodId} {args : Array Value} {below : List Frame} {meth : Method} {c : Code} {H : Heap} {locs : List Loc} {cells slots : Nat}
variable {y : MethodName} {bytes cc : ByteArray} {maxL nL mc ms n index : Nat} {ret : Option FieldType} {ws : List Cond} {rm : Room} {Pc : Array Value → State → Prop} {Qc : Array Value → State → Outcome → State → Prop} {XC : String → State → State → Prop} {free : Addr → Prop} {Ts : List Cond} {own C : String} {b : Addr} {As rest : List Value} {g : JFrame}
theorem vx_callBack (cb : CallB R s args own index y bytes maxL ret ws rm mc ms n) (hM : vx_Met l y ws rm Pc Qc XC mc ms free) (hbl : FrameBlind Pc) : vx_Back l R p e below s args y 3 8 (PreOf R mc ms Pc) (PostOf Qc mc ms free) (vx_Post XC mc ms free) := by
  obtain ⟨hrc, hrs, hfr, hlo, hws, hcw, -, hini, -⟩ := cb
  exact vx_back (bytes := bytes) (maxL := maxL) (ret := ret) hM hbl hrc hrs hfr hlo hws hcw (fun a' U hW => word_at hW (Or.inl (by first | rfl | simp [Cond.onTables, Cond.keeps, Cond.steady])) hini)
theorem vx_runV (S : CallFix p m c cc nL s args Ts own) (hM : vx_Met l y ws rm Pc Qc XC mc ms free) (cw : CallW R s args own C index y bytes maxL ret ws rm mc ms n) (hp : PreV s H C b Pc As)
    (hg : g.method = m) (hn : As.length = n) (hsize : g.locals.size = nL) (hstack : g.stack = As.reverse ++ .ref b :: rest) (hW : 2 * g.monitorRoom + (rest.map fun v => v.category).sum ≤ 8) (hdg : decode cc g.pc = .ok (.invokevirtual index, 3)) (hf : cells + mc ≤ R.cells ∧ slots + ms ≤ R.slots) :
    vx_Run p l e R s m args below meth c H locs cells slots mc ms g rest (Qc (Value.ref b :: As).toArray) XC free := by
  have hK : vx_Back l R p e below s args y 3 8 (PreOf R mc ms Pc) (PostOf Qc mc ms free) (vx_Post XC mc ms free) := vx_callBack cw.1 hM hp.1
  obtain ⟨⟨-, -, -, -, -, -, hcode, -, hy, hlen, hl⟩, hin, hse⟩ := cw
  obtain ⟨hx, hb, hml, ho, -⟩ := S
  obtain ⟨-, ⟨cellB, hcB, hoB, hclB⟩, hPc⟩ := hp
  intro T hT X
  rcases vx_callV X hx (C := C) (bytes := bytes) (maxL := maxL) (ret := ret) ho hl hin hse hcode hy hK (by rw [hT]; exact hcB) hoB hclB hg (hsize.trans hml.symm) (argsL := As) (rest := rest) (fun sig h => hn.trans (hlen sig h)) hstack hW (by rw [hb]; exact hdg)
    (fun vm₁ hW₁ => ⟨hf.1, hf.2, hPc (T.setVm vm₁) hT hW₁⟩) with ⟨v, vm₁, ⟨U', l2, c2, s2⟩, hW₁, X', ⟨g', mk, t, L, e1, e2, hq, h1, hL, h2, h3⟩, st⟩ | ⟨q, vm₁, ⟨U', l2, c2, s2⟩, hW₁, X', ⟨g', mk, t, L, E, ce, e1, e2, hq, hce, hcv, hcl, h1, hL, h2, h3⟩, st⟩
  · dsimp only [Pt.U, Pt.locs, Pt.cells, Pt.slots] at X' e1 e2 h1 h2 h3 st
    subst h1; subst h2; subst h3
    exact Or.inl ⟨v, (T.setVm vm₁).calling g' mk (Value.ref b :: As).toArray, t, U', L, hT, X', hL, e1, e2, hq, st⟩
  · dsimp only [Pt.U, Pt.locs, Pt.cells, Pt.slots] at X' e1 e2 h1 h2 h3 st hcl
    subst h1; subst h2; subst h3
    exact Or.inr ⟨q, (T.setVm vm₁).calling g' mk (Value.ref b :: As).toArray, t, U', L, E, ce, hT, X', hL, e1, e2, hq, hce, hcv, vx_cls hW₁ hcl, st⟩
theorem vx_runS (S : CallFix p m c cc nL s args Ts own) (hM : vx_Met l y ws rm Pc Qc XC mc ms free) (cw : CallB R s args own index y bytes maxL ret ws rm mc ms n ∧ (Cond.static y).before args s = true) (hp : PreS s H Pc As)
    (hg : g.method = m) (hn : As.length = n) (hsize : g.locals.size = nL) (hstack : g.stack = As.reverse ++ rest) (hW : 2 * g.monitorRoom + (rest.map fun v => v.category).sum ≤ 8) (hdg : decode cc g.pc = .ok (.invokestatic index, 3)) (hf : cells + mc ≤ R.cells ∧ slots + ms ≤ R.slots) :
    vx_Run p l e R s m args below meth c H locs cells slots mc ms g rest (Qc As.toArray) XC free := by
  have hK : vx_Back l R p e below s args y 3 8 (PreOf R mc ms Pc) (PostOf Qc mc ms free) (vx_Post XC mc ms free) := vx_callBack cw.1 hM hp.1
  obtain ⟨⟨-, -, -, -, -, -, hcode, hini, hy, hlen, hl⟩, hstt⟩ := cw
  obtain ⟨hx, hb, hml, ho, -⟩ := S
  intro T hT X
  rcases vx_callS X hx (bytes := bytes) (maxL := maxL) (ret := ret) ho hl hstt hini hcode hy hK hg (hsize.trans hml.symm) (argsL := As) (rest := rest) (fun sig h => hn.trans (hlen sig h)) hstack hW (by rw [hb]; exact hdg)
    (fun vm₁ hW₁ => ⟨hf.1, hf.2, hp.2 (T.setVm vm₁) hT hW₁⟩) with ⟨v, vm₁, ⟨U', l2, c2, s2⟩, hW₁, X', ⟨g', mk, t, L, e1, e2, hq, h1, hL, h2, h3⟩, st⟩ | ⟨q, vm₁, ⟨U', l2, c2, s2⟩, hW₁, X', ⟨g', mk, t, L, E, ce, e1, e2, hq, hce, hcv, hcl, h1, hL, h2, h3⟩, st⟩
  · dsimp only [Pt.U, Pt.locs, Pt.cells, Pt.slots] at X' e1 e2 h1 h2 h3 st
    subst h1; subst h2; subst h3
    exact Or.inl ⟨v, (T.setVm vm₁).calling g' mk As.toArray, t, U', L, hT, X', hL, e1, e2, hq, st⟩
  · dsimp only [Pt.U, Pt.locs, Pt.cells, Pt.slots] at X' e1 e2 h1 h2 h3 st hcl
    subst h1; subst h2; subst h3
    exact Or.inr ⟨q, (T.setVm vm₁).calling g' mk As.toArray, t, U', L, E, ce, hT, X', hL, e1, e2, hq, hce, hcv, vx_cls hW₁ hcl, st⟩
end Runs
section Rows
variable {p : Program} {l : Launch} {e : Env} {R : Room} {s : State} {m : MethodId} {args : Array Value} {below : List Frame} {meth : Method} {c : Code} {H : Heap} {locs : List Loc} {cells slots : Nat} {Q : State → Prop}
variable {mc ms : Nat} {free : Addr → Prop} {A0 A1 : Nat → Prop} {H0 : Heap} {a : Array Value} {pc : Nat} {ls : Array Slot} {st0 rest : List Value}
theorem vx_keep {st₀ t T' : State} {L : List Loc} (h0 : st₀.heap = H) (e1 : T'.heap = t.heap) (hS : va_S A0 H0 H locs) (hA : ∀ q, q < H.size → A1 q → A0 q) (hf : ∀ q, free q → A0 q) (hL : ∀ q ∈ L, free q.base) (hF : va_F A1 st₀ t) :
    H.size ≤ T'.heap.size ∧ (∀ q : Nat, q < H.size → ¬ A1 q → T'.heap[q]? = H[q]?) ∧ va_S A0 H0 T'.heap (locs ++ L) := by
  obtain ⟨hz, hk⟩ := hF
  rw [h0] at hz hk
  exact ⟨by rw [e1]; exact hz, fun q h1 h2 => by rw [e1]; exact hk q h1 h2,
    ⟨Nat.le_trans hS.1 (by rw [e1]; exact hz), fun q h1 h2 => by rw [e1, hk q (Nat.lt_of_lt_of_le h1 hS.1) (fun z => h2 (hA q (Nat.lt_of_lt_of_le h1 hS.1) z))]; exact hS.2.1 q h1 h2, fun q hq => by
      rcases List.mem_append.mp hq with h | h
      · exact hS.2.2 q h
      · exact hf _ (hL q h)⟩⟩
theorem vx_calli {S SX : Type} {post : Int32 → S → Prop} {px : SX → Prop} {B : S → State → Prop} {BX : String → SX → State → Prop} {AX : Nat → Prop} (hr : vx_Run p l e R s m args below meth c H locs cells slots mc ms (F0 m pc ls st0) rest (va_Qi post B A1 a) (vx_X px BX AX) free) (hS : va_S A0 H0 H locs) (hA : ∀ q, q < H.size → A1 q → A0 q) (hf : ∀ q, free q → A0 q) (hAX : ∀ q, q < H.size → AX q → A0 q)
    (kx : ∀ (E : String) (ce : Cell) (q9 : Addr) (u : SX) (t : State) (H1 : Heap) (locs1 : List Loc), t.heap = H1 → s.vm.Alike t.vm → px u → BX E u t → H.size ≤ H1.size → (∀ q : Nat, q < H.size → ¬ AX q → H1[q]? = H[q]?) → va_S A0 H0 H1 locs1 → H1[q9]? = some ce → ce.vm = .none → s.vm.findClass E = some ce.cls → vx_W p l e R s m args below meth c H1 locs1 (cells + mc) (slots + ms) Q (F0 m pc ls rest) q9)
    (kk : ∀ (r : Int32) (u : S) (t : State) (H1 : Heap) (locs1 : List Loc), t.heap = H1 → s.vm.Alike t.vm → post r u → B u t → H.size ≤ H1.size → (∀ q : Nat, q < H.size → ¬ A1 q → H1[q]? = H[q]?) → va_S A0 H0 H1 locs1 → W p l e R s m args below meth c H1 locs1 (cells + mc) (slots + ms) Q (F0 m (pc + 3) ls (.int r :: rest))) : W p l e R s m args below meth c H locs cells slots Q (F0 m pc ls st0) := by
  intro T hT X
  rcases hr T hT X with ⟨v, st₀, t, T', L, h0, X', hL, e1, e2, ⟨⟨r, u, hv, hp, hb⟩, hF⟩, st⟩ | ⟨q, st₀, t, T', L, E, ce, h0, X', hL, e1, e2, ⟨u, hp, hb, hF⟩, hce, hcv, hcl, st⟩
  · cases hv
    obtain ⟨k1, k2, k3⟩ := vx_keep h0 e1 hS hA hf hL hF
    obtain ⟨t2, a1, b1⟩ := kk r u t T'.heap (locs ++ L) e1.symm (by rw [← e2]; exact X'.warmed.alike) hp hb k1 k2 k3 T' rfl X'
    exact ⟨t2, st t2 a1, b1⟩
  · obtain ⟨k1, k2, k3⟩ := vx_keep h0 e1 hS hAX hf hL hF
    obtain ⟨t2, a1, b1⟩ := kx E ce q u t T'.heap (locs ++ L) e1.symm (by rw [← e2]; exact X'.warmed.alike) hp hb k1 k2 k3 (by rw [e1]; exact hce) hcv hcl T' rfl X'
    exact ⟨t2, st.trans a1, b1⟩
theorem vx_calll {S SX : Type} {post : Int64 → S → Prop} {px : SX → Prop} {B : S → State → Prop} {BX : String → SX → State → Prop} {AX : Nat → Prop} (hr : vx_Run p l e R s m args below meth c H locs cells slots mc ms (F0 m pc ls st0) rest (va_Ql post B A1 a) (vx_X px BX AX) free) (hS : va_S A0 H0 H locs) (hA : ∀ q, q < H.size → A1 q → A0 q) (hf : ∀ q, free q → A0 q) (hAX : ∀ q, q < H.size → AX q → A0 q)
    (kx : ∀ (E : String) (ce : Cell) (q9 : Addr) (u : SX) (t : State) (H1 : Heap) (locs1 : List Loc), t.heap = H1 → s.vm.Alike t.vm → px u → BX E u t → H.size ≤ H1.size → (∀ q : Nat, q < H.size → ¬ AX q → H1[q]? = H[q]?) → va_S A0 H0 H1 locs1 → H1[q9]? = some ce → ce.vm = .none → s.vm.findClass E = some ce.cls → vx_W p l e R s m args below meth c H1 locs1 (cells + mc) (slots + ms) Q (F0 m pc ls rest) q9)
    (kk : ∀ (r : Int64) (u : S) (t : State) (H1 : Heap) (locs1 : List Loc), t.heap = H1 → s.vm.Alike t.vm → post r u → B u t → H.size ≤ H1.size → (∀ q : Nat, q < H.size → ¬ A1 q → H1[q]? = H[q]?) → va_S A0 H0 H1 locs1 → W p l e R s m args below meth c H1 locs1 (cells + mc) (slots + ms) Q (F0 m (pc + 3) ls (.long r :: rest))) : W p l e R s m args below meth c H locs cells slots Q (F0 m pc ls st0) := by
  intro T hT X
  rcases hr T hT X with ⟨v, st₀, t, T', L, h0, X', hL, e1, e2, ⟨⟨r, u, hv, hp, hb⟩, hF⟩, st⟩ | ⟨q, st₀, t, T', L, E, ce, h0, X', hL, e1, e2, ⟨u, hp, hb, hF⟩, hce, hcv, hcl, st⟩
  · cases hv
    obtain ⟨k1, k2, k3⟩ := vx_keep h0 e1 hS hA hf hL hF
    obtain ⟨t2, a1, b1⟩ := kk r u t T'.heap (locs ++ L) e1.symm (by rw [← e2]; exact X'.warmed.alike) hp hb k1 k2 k3 T' rfl X'
    exact ⟨t2, st t2 a1, b1⟩
  · obtain ⟨k1, k2, k3⟩ := vx_keep h0 e1 hS hAX hf hL hF
    obtain ⟨t2, a1, b1⟩ := kx E ce q u t T'.heap (locs ++ L) e1.symm (by rw [← e2]; exact X'.warmed.alike) hp hb k1 k2 k3 (by rw [e1]; exact hce) hcv hcl T' rfl X'
    exact ⟨t2, st.trans a1, b1⟩
theorem vx_callf {S SX : Type} {post : UInt32 → S → Prop} {px : SX → Prop} {B : S → State → Prop} {BX : String → SX → State → Prop} {AX : Nat → Prop} (hr : vx_Run p l e R s m args below meth c H locs cells slots mc ms (F0 m pc ls st0) rest (va_Qf post B A1 a) (vx_X px BX AX) free) (hS : va_S A0 H0 H locs) (hA : ∀ q, q < H.size → A1 q → A0 q) (hf : ∀ q, free q → A0 q) (hAX : ∀ q, q < H.size → AX q → A0 q)
    (kx : ∀ (E : String) (ce : Cell) (q9 : Addr) (u : SX) (t : State) (H1 : Heap) (locs1 : List Loc), t.heap = H1 → s.vm.Alike t.vm → px u → BX E u t → H.size ≤ H1.size → (∀ q : Nat, q < H.size → ¬ AX q → H1[q]? = H[q]?) → va_S A0 H0 H1 locs1 → H1[q9]? = some ce → ce.vm = .none → s.vm.findClass E = some ce.cls → vx_W p l e R s m args below meth c H1 locs1 (cells + mc) (slots + ms) Q (F0 m pc ls rest) q9)
    (kk : ∀ (r : UInt32) (u : S) (t : State) (H1 : Heap) (locs1 : List Loc), t.heap = H1 → s.vm.Alike t.vm → post r u → B u t → H.size ≤ H1.size → (∀ q : Nat, q < H.size → ¬ A1 q → H1[q]? = H[q]?) → va_S A0 H0 H1 locs1 → W p l e R s m args below meth c H1 locs1 (cells + mc) (slots + ms) Q (F0 m (pc + 3) ls (.float r :: rest))) : W p l e R s m args below meth c H locs cells slots Q (F0 m pc ls st0) := by
  intro T hT X
  rcases hr T hT X with ⟨v, st₀, t, T', L, h0, X', hL, e1, e2, ⟨⟨r, u, hv, hp, hb⟩, hF⟩, st⟩ | ⟨q, st₀, t, T', L, E, ce, h0, X', hL, e1, e2, ⟨u, hp, hb, hF⟩, hce, hcv, hcl, st⟩
  · cases hv
    obtain ⟨k1, k2, k3⟩ := vx_keep h0 e1 hS hA hf hL hF
    obtain ⟨t2, a1, b1⟩ := kk r u t T'.heap (locs ++ L) e1.symm (by rw [← e2]; exact X'.warmed.alike) hp hb k1 k2 k3 T' rfl X'
    exact ⟨t2, st t2 a1, b1⟩
  · obtain ⟨k1, k2, k3⟩ := vx_keep h0 e1 hS hAX hf hL hF
    obtain ⟨t2, a1, b1⟩ := kx E ce q u t T'.heap (locs ++ L) e1.symm (by rw [← e2]; exact X'.warmed.alike) hp hb k1 k2 k3 (by rw [e1]; exact hce) hcv hcl T' rfl X'
    exact ⟨t2, st.trans a1, b1⟩
theorem vx_calld {S SX : Type} {post : UInt64 → S → Prop} {px : SX → Prop} {B : S → State → Prop} {BX : String → SX → State → Prop} {AX : Nat → Prop} (hr : vx_Run p l e R s m args below meth c H locs cells slots mc ms (F0 m pc ls st0) rest (va_Qd post B A1 a) (vx_X px BX AX) free) (hS : va_S A0 H0 H locs) (hA : ∀ q, q < H.size → A1 q → A0 q) (hf : ∀ q, free q → A0 q) (hAX : ∀ q, q < H.size → AX q → A0 q)
    (kx : ∀ (E : String) (ce : Cell) (q9 : Addr) (u : SX) (t : State) (H1 : Heap) (locs1 : List Loc), t.heap = H1 → s.vm.Alike t.vm → px u → BX E u t → H.size ≤ H1.size → (∀ q : Nat, q < H.size → ¬ AX q → H1[q]? = H[q]?) → va_S A0 H0 H1 locs1 → H1[q9]? = some ce → ce.vm = .none → s.vm.findClass E = some ce.cls → vx_W p l e R s m args below meth c H1 locs1 (cells + mc) (slots + ms) Q (F0 m pc ls rest) q9)
    (kk : ∀ (r : UInt64) (u : S) (t : State) (H1 : Heap) (locs1 : List Loc), t.heap = H1 → s.vm.Alike t.vm → post r u → B u t → H.size ≤ H1.size → (∀ q : Nat, q < H.size → ¬ A1 q → H1[q]? = H[q]?) → va_S A0 H0 H1 locs1 → W p l e R s m args below meth c H1 locs1 (cells + mc) (slots + ms) Q (F0 m (pc + 3) ls (.double r :: rest))) : W p l e R s m args below meth c H locs cells slots Q (F0 m pc ls st0) := by
  intro T hT X
  rcases hr T hT X with ⟨v, st₀, t, T', L, h0, X', hL, e1, e2, ⟨⟨r, u, hv, hp, hb⟩, hF⟩, st⟩ | ⟨q, st₀, t, T', L, E, ce, h0, X', hL, e1, e2, ⟨u, hp, hb, hF⟩, hce, hcv, hcl, st⟩
  · cases hv
    obtain ⟨k1, k2, k3⟩ := vx_keep h0 e1 hS hA hf hL hF
    obtain ⟨t2, a1, b1⟩ := kk r u t T'.heap (locs ++ L) e1.symm (by rw [← e2]; exact X'.warmed.alike) hp hb k1 k2 k3 T' rfl X'
    exact ⟨t2, st t2 a1, b1⟩
  · obtain ⟨k1, k2, k3⟩ := vx_keep h0 e1 hS hAX hf hL hF
    obtain ⟨t2, a1, b1⟩ := kx E ce q u t T'.heap (locs ++ L) e1.symm (by rw [← e2]; exact X'.warmed.alike) hp hb k1 k2 k3 (by rw [e1]; exact hce) hcv hcl T' rfl X'
    exact ⟨t2, st.trans a1, b1⟩
theorem vx_callv {S SX : Type} {post : S → Prop} {px : SX → Prop} {B : S → State → Prop} {BX : String → SX → State → Prop} {AX : Nat → Prop} (hr : vx_Run p l e R s m args below meth c H locs cells slots mc ms (F0 m pc ls st0) rest (va_Qv post B A1 a) (vx_X px BX AX) free) (hS : va_S A0 H0 H locs) (hA : ∀ q, q < H.size → A1 q → A0 q) (hf : ∀ q, free q → A0 q) (hAX : ∀ q, q < H.size → AX q → A0 q)
    (kx : ∀ (E : String) (ce : Cell) (q9 : Addr) (u : SX) (t : State) (H1 : Heap) (locs1 : List Loc), t.heap = H1 → s.vm.Alike t.vm → px u → BX E u t → H.size ≤ H1.size → (∀ q : Nat, q < H.size → ¬ AX q → H1[q]? = H[q]?) → va_S A0 H0 H1 locs1 → H1[q9]? = some ce → ce.vm = .none → s.vm.findClass E = some ce.cls → vx_W p l e R s m args below meth c H1 locs1 (cells + mc) (slots + ms) Q (F0 m pc ls rest) q9)
    (kk : ∀ (u : S) (t : State) (H1 : Heap) (locs1 : List Loc), t.heap = H1 → s.vm.Alike t.vm → post u → B u t → H.size ≤ H1.size → (∀ q : Nat, q < H.size → ¬ A1 q → H1[q]? = H[q]?) → va_S A0 H0 H1 locs1 → W p l e R s m args below meth c H1 locs1 (cells + mc) (slots + ms) Q (F0 m (pc + 3) ls (rest))) : W p l e R s m args below meth c H locs cells slots Q (F0 m pc ls st0) := by
  intro T hT X
  rcases hr T hT X with ⟨v, st₀, t, T', L, h0, X', hL, e1, e2, ⟨⟨u, hv, hp, hb⟩, hF⟩, st⟩ | ⟨q, st₀, t, T', L, E, ce, h0, X', hL, e1, e2, ⟨u, hp, hb, hF⟩, hce, hcv, hcl, st⟩
  · cases hv
    obtain ⟨k1, k2, k3⟩ := vx_keep h0 e1 hS hA hf hL hF
    obtain ⟨t2, a1, b1⟩ := kk u t T'.heap (locs ++ L) e1.symm (by rw [← e2]; exact X'.warmed.alike) hp hb k1 k2 k3 T' rfl X'
    exact ⟨t2, st t2 a1, b1⟩
  · obtain ⟨k1, k2, k3⟩ := vx_keep h0 e1 hS hAX hf hL hF
    obtain ⟨t2, a1, b1⟩ := kx E ce q u t T'.heap (locs ++ L) e1.symm (by rw [← e2]; exact X'.warmed.alike) hp hb k1 k2 k3 (by rw [e1]; exact hce) hcv hcl T' rfl X'
    exact ⟨t2, st.trans a1, b1⟩
/-- caught by the row x of this method's table; the rows ahead don't take it -/
theorem vx_catch {own name : String} {E : String} {ce : Cell} {q : Addr} (hown : s.vm.findClass own = some m.cls) (pre : List ExceptionTableEntry) (x : ExceptionTableEntry) (suf : List ExceptionTableEntry) (hsplit : c.exceptionTable.toList = pre ++ x :: suf)
    (hpass : ∀ z ∈ pre, covers z pc = false ∨ (z.catchType ≠ 0 ∧ ∃ nm : String, (Cond.classLink own z.catchType nm).before args s = true ∧ va_Nc E nm s)) (hx : covers x pc = true) (h0 : x.catchType ≠ 0)
    (hlink : (Cond.classLink own x.catchType name).before args s = true) (hcast : (Cond.castable E name).before args s = true) (hcell : H[q]? = some ce) (hv : ce.vm = .none) (hcl : s.vm.findClass E = some ce.cls)
    (kk : W p l e R s m args below meth c H locs cells slots Q (F0 m x.handlerPc ls [.ref q])) : vx_W p l e R s m args below meth c H locs cells slots Q (F0 m pc ls rest) q := by
  intro T hT X
  have hpl : e.platform.magicAccessors = ({} : Platform).magicAccessors := by rw [X.admits.platform]
  obtain ⟨c3, c4, hc3, hc4, hasg⟩ := Cond.castable_spec hcast
  cases Option.some.inj (hc3.symm.trans hcl)
  obtain ⟨c5, hc5, hcl5⟩ := Cond.classLink_spec hown hlink e.platform hpl
  cases Option.some.inj (hc4.symm.trans hc5)
  obtain ⟨vm', X', st⟩ := X.thenCaughtThrough q (g := F0 m pc ls rest) rfl (Steps.refl _) (by rw [hT]; exact hcell) (by rw [hv]; rfl) (by obtain ⟨k9, h9, -⟩ := Vm.findClass_spec hcl; exact ⟨k9, h9⟩) pre x suf hsplit
    (fun z hz => by
      rcases hpass z hz with h | ⟨hz0, nm, hl1, hn1⟩
      · exact Or.inl h
      · obtain ⟨c6, hc6, hcl6⟩ := Cond.classLink_spec hown hl1 e.platform hpl
        obtain ⟨a8, b8, h1, h2, h3⟩ := hn1
        cases Option.some.inj (h1.symm.trans hcl)
        cases Option.some.inj (h2.symm.trans hc6)
        exact Or.inr ⟨hz0, _, hcl6, h3⟩) hx (Or.inr ⟨h0, c4, hcl5, hasg⟩)
  obtain ⟨t, a1, b1⟩ := kk (T.setVm vm') hT X'
  exact ⟨t, st.trans a1, b1⟩
end Rows
section Ends
variable {p : Program} {l : Launch} {e : Env} {R : Room} {s : State} {m : MethodId} {args : Array Value} {below : List Frame} {meth : Method} {c : Code} {H : Heap} {locs : List Loc} {cells slots : Nat} {Q : State → Prop}
variable {mc ms : Nat} {free : Addr → Prop} {A0 A1 : Nat → Prop} {H0 : Heap} {a : Array Value} {ls : Array Slot} {st0 rest : List Value}
variable {Qc : Array Value → State → Outcome → State → Prop} {XC : String → State → State → Prop}
/-- what a body that may throw owes at its end -/
def vx_MQ (below : List Frame) (Qc : Array Value → State → Outcome → State → Prop) (XC : String → State → State → Prop) (a : Array Value) (s : State) (mc ms : Nat) (free : Addr → Prop) : State → Prop := fun t =>
  ∃ o, t.status = .running ∧ Ended t below o ∧ vx_Q Qc XC mc ms free a s o t
theorem vx_ret {g : JFrame} {mc ms : Nat} (k : W p l e R s m args below meth c H locs cells slots (MQ below Qc args s mc ms free) g) : W p l e R s m args below meth c H locs cells slots (vx_MQ below Qc XC args s mc ms free) g := by
  intro T hT X
  obtain ⟨t, a1, o, b1, b2, b3, b4⟩ := k T hT X
  exact ⟨t, a1, o, b1, b2, Or.inl ⟨b3, b4⟩⟩
/-- not caught here: it goes on to the caller -/
theorem vx_widen {g : JFrame} {q : Addr} {k n : Nat} (h1 : cells ≤ k) (h2 : slots ≤ n) (kk : vx_W p l e R s m args below meth c H locs k n Q g q) : vx_W p l e R s m args below meth c H locs cells slots Q g q := fun T hT X => kk T hT (stand_widen X h1 h2)
theorem vx_out {pc : Nat} {E : String} {ce : Cell} {q : Addr} {mc ms : Nat} (hout : ∀ x ∈ c.exceptionTable.toList, covers x pc = false) (hlocks : meth.locks = false) (hcell : H[q]? = some ce) (hv : ce.vm = .none) (hcl : s.vm.findClass E = some ce.cls)
    (hx : ∀ t : State, t.heap = H → s.vm.Alike t.vm → XC E s t) (hf : ∀ z ∈ locs, free z.base) (hc : cells ≤ mc) (hs : slots ≤ ms) :
    vx_W p l e R s m args below meth c H locs cells slots (vx_MQ below Qc XC args s mc ms free) (F0 m pc ls rest) q := by
  intro T hT X
  obtain ⟨st1, hrun, hend, hW, hsm⟩ := X.leaveThrown q (g := F0 m pc ls rest) rfl rfl rfl hout hlocks
  have hcell9 : (T.setFrames (.throwing q :: below)).heap[q]? = some ce := by
    show T.heap[q]? = some ce
    rw [hT]; exact hcell
  exact ⟨_, st1, .threw q, hrun, hend, Or.inr ⟨q, rfl, E, ce, locs, hx _ hT hW.alike, hcell9, hv, hcl, hW, hsm.mono hc hs, hf⟩⟩
theorem vx_frame {U : State} {k n : Nat} (h : s.sameButNew ({ U with vm := s.vm } : State) locs k n) : s.heap.size ≤ U.heap.size ∧ ∀ q : Nat, q < s.heap.size → (∀ z ∈ locs, z.base ≠ q) → U.heap[q]? = s.heap[q]? := by
  obtain ⟨-, h2, -, -, -, h6⟩ := h
  refine ⟨h2, fun q hq hz => ?_⟩
  obtain ⟨c9, e1, e2, e3, e4⟩ := h6 q _ (Array.getElem?_eq_getElem hq)
  have hs : c9.slots = (s.heap[q]).slots := Array.ext_getElem? fun i => e4 i fun hm => hz _ hm rfl
  have h9 : c9 = s.heap[q] := by
    rw [hs] at e2
    exact e2
  have e5 : U.heap[q]? = some c9 := e1
  rw [e5, h9, Array.getElem?_eq_getElem hq]
/-- the words of a throw but the four that speak of the heap -/
def vx_no (w : Cond) : Bool := decide (w ≠ .isRef (.static Bundle.tN "UNASSIGNED_STACK" Bundle.steD)) && decide (w ≠ .isRef (.static Bundle.tN "SUPPRESSED_SENTINEL" Bundle.listD)) && decide (w ≠ .laysStatic Bundle.tN "UNASSIGNED_STACK" Bundle.steD) && decide (w ≠ .laysStatic Bundle.tN "SUPPRESSED_SENTINEL" Bundle.listD)
def vx_at0 (own : String) (ic : Nat) (X : String) (names : List String) : List Cond := (Bundle.ownAtoms0 own ic X names).filter vx_no
def vx_atS (own : String) (ic : Nat) (X : String) (names : List String) : List Cond := (Bundle.ownAtoms own ic X names).filter vx_no
/-- a word that the tables alone decide, or a good one -/
def vx_ot (w : Cond) : Bool := w.onTables || goodWord w
theorem vx_ot_at {args a' : Array Value} {s U : State} {w : Cond} (hW : s.WarmedH U.vm) (hvm : s.vm = U.vm) (hg : vx_ot w = true) (h : w.before args s = true) : w.before a' U = true := by
  simp only [vx_ot, Bool.or_eq_true] at hg
  rcases hg with hg | hg
  · exact va_tabs hg hvm h
  · exact word_at hW (good_of_word hg) h
/-- a list's words: the good ones out of the method's own list, the others by premises of their own -/
theorem vx_hat {args : Array Value} {s : State} {L B : List Cond} (h1 : ∀ w ∈ L.filter goodWord, w.before args s = true) (h2 : ∀ w ∈ L.filter (fun w => !goodWord w), w ∈ B) (h3 : ∀ w ∈ B, w.before args s = true) : ∀ w ∈ L, w.before args s = true := by
  intro w hw
  by_cases g : goodWord w = true
  · exact h1 w (List.mem_filter.mpr ⟨hw, g⟩)
  · refine h3 w (h2 w (List.mem_filter.mpr ⟨hw, ?_⟩))
    show (!goodWord w) = true
    cases hgw : goodWord w
    · rfl
    · exact absurd hgw g
theorem vx_c {args : Array Value} {s : State} {w : Cond} {B : List Cond} (h : w.before args s = true) (t : ∀ w ∈ B, w.before args s = true) : ∀ w' ∈ w :: B, w'.before args s = true := fun w' h' => (List.mem_cons.mp h').elim (fun e => by rw [e]; exact h) (t w')
theorem vx_n {args : Array Value} {s : State} : ∀ w ∈ ([] : List Cond), w.before args s = true := fun _ h => nomatch h
theorem vx_own {args : Array Value} {s : State} {L : List Cond} (h1 : ∀ w ∈ L.filter vx_no, w.before args s = true)
    (hU : (Cond.isRef (.static Bundle.tN "UNASSIGNED_STACK" Bundle.steD)).before args s = true) (hN : (Cond.isRef (.static Bundle.tN "SUPPRESSED_SENTINEL" Bundle.listD)).before args s = true)
    (lU : (Cond.laysStatic Bundle.tN "UNASSIGNED_STACK" Bundle.steD).before args s = true) (lN : (Cond.laysStatic Bundle.tN "SUPPRESSED_SENTINEL" Bundle.listD).before args s = true) : ∀ w ∈ L, w.before args s = true := by
  intro w hw
  by_cases e1 : w = .isRef (.static Bundle.tN "UNASSIGNED_STACK" Bundle.steD)
  · rw [e1]; exact hU
  · by_cases e2 : w = .isRef (.static Bundle.tN "SUPPRESSED_SENTINEL" Bundle.listD)
    · rw [e2]; exact hN
    · by_cases e3 : w = .laysStatic Bundle.tN "UNASSIGNED_STACK" Bundle.steD
      · rw [e3]; exact lU
      · by_cases e4 : w = .laysStatic Bundle.tN "SUPPRESSED_SENTINEL" Bundle.listD
        · rw [e4]; exact lN
        · exact h1 w (List.mem_filter.mpr ⟨hw, by unfold vx_no; rw [decide_eq_true e1, decide_eq_true e2, decide_eq_true e3, decide_eq_true e4]; rfl⟩)
/-- where a static field lies, its class's statics cell in H -/
def vx_L (C n d : String) (A : Nat → Prop) (U : State) (H : Heap) : Prop := ∃ (c : ClassId) (k : Class) (i : Nat) (f : Field) (a : Nat) (cell : Cell), U.vm.findClass C = some c ∧ U.fieldFound? C n d = some (c, k, i, f) ∧ f.isStatic = true ∧ k.statics = some a ∧ H[a]? = some cell ∧ cell.vm.isStatics = true ∧ cell.cls = c ∧ f.slot < cell.slots.size ∧ k.staticTypes[f.slot]? = some f.type ∧ ¬ A a
theorem vx_L.moved {C n d : String} {A : Nat → Prop} {u U : State} {H : Heap} (hvm : u.vm.Alike U.vm) (h : vx_L C n d A u H) : vx_L C n d A U H := by
  obtain ⟨c, k, i, f, a, cell, h1, h2, h3, h4, h5, h6, h7, h8, h9, h10⟩ := h
  obtain ⟨k', hi', he⟩ := State.fieldFound?_setVm hvm h2
  exact ⟨c, k', i, f, a, cell, by rw [hvm.findClass]; exact h1, hi', h3, by rw [he]; exact h4, h5, h6, h7, h8, by rw [he]; exact h9, h10⟩
theorem vx_L.kept {C n d : String} {A : Nat → Prop} {U : State} {H H1 : Heap} (h : vx_L C n d A U H) (hq : ∀ a : Nat, a < H.size → ¬ A a → H1[a]? = H[a]?) : vx_L C n d A U H1 := by
  obtain ⟨c, k, i, f, a, cell, h1, h2, h3, h4, h5, h6, h7, h8, h9, h10⟩ := h
  exact ⟨c, k, i, f, a, cell, h1, h2, h3, h4, by rw [hq a (Array.getElem?_eq_some_iff.mp h5).1 h10]; exact h5, h6, h7, h8, h9, h10⟩
theorem vx_L.narrow {C n d : String} {A B : Nat → Prop} {U : State} {H : Heap} (h : vx_L C n d A U H) (hAB : ∀ q, B q → A q) : vx_L C n d B U H := by
  obtain ⟨c, k, i, f, a, cell, h1, h2, h3, h4, h5, h6, h7, h8, h9, h10⟩ := h
  exact ⟨c, k, i, f, a, cell, h1, h2, h3, h4, h5, h6, h7, h8, h9, fun z => h10 (hAB _ z)⟩
theorem vx_L.word {C n d : String} {A : Nat → Prop} {s : State} {args : Array Value} (h : vx_L C n d A s s.heap) : (Cond.laysStatic C n d).before args s = true := by
  obtain ⟨c, k, i, f, a, cell, h1, h2, h3, h4, h5, h6, h7, h8, h9, -⟩ := h
  show (Cond.laysStatic C n d).holds args s none s [] = true
  exact Cond.laysStatic_of h1 h2 h3 h4 h5 h6 h7 h8 h9
/-- .. and what it holds: null or some reference -/
def vx_Zq (C n d : String) (A : Nat → Prop) (U : State) (H : Heap) : Prop := va_Zq C n d A U H ∧ vx_L C n d A U H
theorem vx_Zq.moved {C n d : String} {A : Nat → Prop} {u U : State} {H : Heap} (hvm : u.vm.Alike U.vm) (h : vx_Zq C n d A u H) : vx_Zq C n d A U H := ⟨va_Zq.moved hvm h.1, vx_L.moved hvm h.2⟩
theorem vx_Zq.kept {C n d : String} {A : Nat → Prop} {U : State} {H H1 : Heap} (h : vx_Zq C n d A U H) (hq : ∀ a : Nat, a < H.size → ¬ A a → H1[a]? = H[a]?) : vx_Zq C n d A U H1 := ⟨va_Zq.kept h.1 hq, vx_L.kept h.2 hq⟩
theorem vx_Zq.narrow {C n d : String} {A B : Nat → Prop} {U : State} {H : Heap} (h : vx_Zq C n d A U H) (hAB : ∀ q, B q → A q) : vx_Zq C n d B U H := ⟨va_Zq.narrow h.1 hAB, vx_L.narrow h.2 hAB⟩
theorem vx_Zqof {args : Array Value} {s : State} {C n d : String} {A : Nat → Prop} (hl : (Cond.laysStatic C n d).before args s = true) (hini : (Cond.initialized C).before args s = true) (h : (Cond.isRef (.static C n d)).before args s = true) (hA : ∀ a : Nat, a < s.heap.size → ¬ A a) : vx_Zq C n d A s s.heap := by
  refine ⟨va_Zqof hl hini h hA, ?_⟩
  obtain ⟨c, k, i, f, a, cell, h1, h2, h3, h4, h5, h6, h7, h8, h9⟩ := Cond.laysStatic_spec hl
  exact ⟨c, k, i, f, a, cell, h1, h2, h3, h4, h5, h6, h7, h8, h9, hA a (Array.getElem?_eq_some_iff.mp h5).1⟩
theorem vx_isRef {C n d : String} {v : Value} {A : Nat → Prop} {s : State} {args : Array Value} (h : va_Z C n d v A s s.heap) (hv : v.isRef = true) : (Cond.isRef (.static C n d)).before args s = true := by
  obtain ⟨cf, kf, fi, f, a, cell, h1, h2, h3, h4, h5, h6, h7, -⟩ := h
  have he : (Term.static C n d).eval args s none [] s = some v := by
    simp [Term.eval, State.fieldNamed?, h1, h2, h4, h5, h6, h7]
  simp only [Cond.before, Cond.holds, Cond.value, he]
  cases v <;> simp_all [Value.isRef]
theorem vx_isRefq {C n d : String} {A : Nat → Prop} {s : State} {args : Array Value} (h : va_Zq C n d A s s.heap) : (Cond.isRef (.static C n d)).before args s = true := by
  rcases h with h | ⟨t, h⟩
  · exact vx_isRef h rfl
  · exact vx_isRef h rfl
/-- the same frame, seen from here: as if the method were called anew in this heap -/
theorem vx_rebase {T : State} (X : Stand p l e R s m args below meth c T locs cells slots) {R' : Room} (hf : R'.frames ≤ R.frames) (hl : R'.locals ≤ R.locals) (hc : cells + R'.cells ≤ R.cells) (hs : slots + R'.slots ≤ R.slots) :
    Stand p l e R' ((T.setVm s.vm).setFrames (.invoking m args :: below)) m args below meth c T [] 0 0 := by
  have htop : (T.setVm s.vm).topJava?.isSome := X.here.top
  have hF : ((T.setVm s.vm).setFrames (.invoking m args :: below)).frames = .invoking m args :: below := State.frames_setFrames _ (State.cur_lt_of_top htop)
  obtain ⟨g₀, hg0⟩ := Option.isSome_iff_exists.mp htop
  obtain ⟨r, hr⟩ := State.topJava?_eq_some.mp hg0
  have hl9 : e.platform.stackLimits (T.setVm s.vm).me = e.platform.stackLimits s.me := X.limits
  have hb9 : (T.setVm s.vm).me.stackBytes = s.me.stackBytes := X.bytes
  refine ⟨X.admits, X.cas, X.clock, hF, ?_, X.hears, X.method, X.code, X.here, X.tail, X.warmed, ?_, ?_, ?_⟩
  · have h := X.room
    have hU : ((T.setVm s.vm).setFrames (.invoking m args :: below)).localsInUse = s.localsInUse := by
      rw [State.localsInUse_invoking hF (meth := meth) (c := c) X.method X.code, State.localsInUse_invoking X.frames X.method X.code]
    simp only [State.hasRoom, Bool.and_eq_true, decide_eq_true_eq] at h ⊢
    obtain ⟨⟨⟨⟨h1, h2, h3, h4, h5, h6⟩, h7⟩, h8⟩, h9⟩ := h
    rw [X.frames, List.length_cons] at h2 h3
    have q1 := X.heapSize
    have q2 := X.used
    simp only [hF, hU, List.length_cons, State.stackLimits_setFrames, State.stackBytes_setFrames, hl9, hb9]
    refine ⟨⟨⟨⟨by omega, by omega, by omega, by omega, by omega, h6⟩, ?_⟩, ?_⟩, X.book⟩
    · show T.heap.size + R'.cells ≤ e.platform.maxCells
      omega
    · show T.slotsUsed + R'.slots ≤ e.platform.maxSlots
      omega
  · rw [State.stackLimits_setFrames]; rfl
  · rw [State.stackBytes_setFrames]; rfl
  · refine ⟨?_, Nat.le_refl _, Nat.le_refl _, ?_, ?_, fun a c9 h9 => ⟨c9, h9, rfl, rfl, fun _ _ => rfl⟩⟩
    · obtain ⟨t, ht, -⟩ := State.frames_cons hr
      show T.setVm s.vm = { ((T.setVm s.vm).setFrames (.invoking m args :: below)).setFrames (T.setVm s.vm).frames with heap := T.heap, slotsUsed := T.slotsUsed }
      rw [State.setFrames_setFrames, State.setFrames_self ht]
      rfl
    · show T.slotsUsed = T.slotsUsed + ((T.heap.toList.drop T.heap.size).map (·.slots.size)).sum
      rw [List.drop_eq_nil_of_le (Nat.le_of_eq Array.length_toList)]
      rfl
    · show ((T.heap.toList.drop T.heap.size).map (·.slots.size)).sum ≤ 0
      rw [List.drop_eq_nil_of_le (Nat.le_of_eq Array.length_toList)]
      exact Nat.le_refl _
/-- 'throw new E()': new; dup; invokespecial; athrow -/
theorem vx_throw0 {cc : ByteArray} {pc : Nat} (hexec : p.tables.exec = Jvm.exec) (hb : c.code = cc) (hl : l.stackTraces = false) {own cls : String} {names : List String} {ik ic mc ms : Nat} {A : Nat → Prop}
    (hown : s.vm.findClass own = some m.cls) (hcls : Bundle.fit cls = true) (hnames : ∀ n ∈ names, Bundle.fit n = true)
    (hk : (Cond.classLink own ik cls).before args s = true) (hini : (Cond.initialized cls).before args s = true) (hat : ∀ w ∈ vx_at0 own ic cls names, w.before args s = true)
    (hgood : ∀ w ∈ Cond.classLink own ik cls :: Cond.initialized cls :: vx_at0 own ic cls names, vx_ot w = true)
    (hU : vx_Zq Bundle.tN "UNASSIGNED_STACK" Bundle.steD A s s.heap) (hN : vx_Zq Bundle.tN "SUPPRESSED_SENTINEL" Bundle.listD A s s.heap) (hS : va_S A s.heap H locs) (hsize : ls.size = c.maxLocals)
    (d0 : decode cc pc = .ok (.new ik, 3)) (d3 : decode cc (pc + 3) = .ok (.dup, 1)) (d4 : decode cc (pc + 4) = .ok (.invokespecial ic, 3)) (d7 : decode cc (pc + 7) = .ok (.athrow, 1))
    (hout : ∀ x ∈ c.exceptionTable.toList, covers x (pc + 7) = false)
    (hRframes : names.length + 3 < R.frames) (hRlocals : (rest.map fun v => v.category).sum + (13 * (names.length + 1) + 42) ≤ R.locals) (hRcells : cells + 1 ≤ R.cells) (hRslots : slots + 6 ≤ R.slots) (hlocks : meth.locks = false)
    (hx : ∀ t : State, s.vm.Alike t.vm → H.size ≤ t.heap.size → (∀ q : Nat, q < H.size → t.heap[q]? = H[q]?) → XC cls s t)
    (hf : ∀ z ∈ locs, free z.base) (hc : cells + 1 ≤ mc) (hs : slots + 6 ≤ ms) :
    W p l e R s m args below meth c H locs cells slots (vx_MQ below Qc XC args s mc ms free) (F0 m pc ls rest) := by
  intro T hT X
  have htr : e.platform.stackTraces = false := (show e.platform.stackTraces = l.stackTraces by rw [X.admits.platform]).trans hl
  have Y := vx_rebase X (R' := { frames := R.frames, locals := R.locals, cells := 1, slots := 6 }) (Nat.le_refl _) (Nat.le_refl _) hRcells hRslots
  obtain ⟨s', hA⟩ : ∃ z, z = (T.setVm s.vm).setFrames (.invoking m args :: below) := ⟨_, rfl⟩
  rw [← hA] at Y
  have hvm : s'.vm = s.vm := by rw [hA]; rfl
  have hhp : s'.heap = H := by rw [hA]; exact hT
  have hW0 : s.WarmedH s'.vm := by rw [hvm]; exact State.WarmedH.refl s
  have hat' : ∀ w ∈ vx_at0 own ic cls names, w.before args s' = true := fun w hw => vx_ot_at hW0 hvm.symm (hgood w (List.mem_cons_of_mem _ (List.mem_cons_of_mem _ hw))) (hat w hw)
  have hk' : (Cond.classLink own ik cls).before args s' = true := vx_ot_at hW0 hvm.symm (hgood _ List.mem_cons_self) hk
  have hini' : (Cond.initialized cls).before args s' = true := vx_ot_at hW0 hvm.symm (hgood _ (List.mem_cons_of_mem _ List.mem_cons_self)) hini
  have hU' : vx_Zq Bundle.tN "UNASSIGNED_STACK" Bundle.steD A s' s'.heap := by rw [hhp]; exact vx_Zq.moved hW0.alike (hU.kept hS.2.1)
  have hN' : vx_Zq Bundle.tN "SUPPRESSED_SENTINEL" Bundle.listD A s' s'.heap := by rw [hhp]; exact vx_Zq.moved hW0.alike (hN.kept hS.2.1)
  have h : ∀ w ∈ Bundle.ownAtoms0 own ic cls names, w.before args s' = true := vx_own hat' (vx_isRefq hU'.1) (vx_isRefq hN'.1) hU'.2.word hN'.2.word
  have hown' : s'.vm.findClass own = some m.cls := by rw [hvm]; exact hown
  have hins : (Cond.instantiable cls 6).before args s' = true := h _ (by simp [Bundle.ownAtoms0])
  obtain ⟨vm₁, cX, kX, hfX, hkX, -, -, X₁, st1⟩ := Y.newCold hexec (own := own) (C := cls) (index := ik) (n := 6) hown' hk' hins hini'
    (g := F0 m pc ls rest) rfl (by rw [hb]; exact d0) (Nat.le_refl _) (Nat.le_refl _)
  generalize hT1 : (T.setVm vm₁).pushCell { cls := cX, slots := kX.instanceTypes.map defaultValue, vm := .none } = T1 at X₁ st1
  have hcat : (Value.ref T.heap.size).category = 1 := rfl
  have hcellA : T1.heap[T.heap.size]? = some (freshCell cX kX) := by rw [← hT1]; exact State.heap_pushCell_size _ _
  have d3' : decode c.code (pc + 3) = .ok (.dup, 1) := by rw [hb]; exact d3
  obtain ⟨U, hsteps, hrun, hend, hW, hsame, ce, hce, hO⟩ := X₁.ctorThrow0 hexec htr (own := own) (cls := cls) (names := names) (ic := ic) hown' hcls hnames h (fun x hx => nomatch hx) hfX hkX hcellA (by rw [hhp, hT]; exact Nat.le_refl _)
    (g := { method := m, pc := pc + 4, locals := ls, stack := .ref T.heap.size :: .ref T.heap.size :: rest, locked := none }) rfl hsize rfl rfl (rest := rest) rfl
    (by rw [hb]; exact d4) (by rw [hb]; exact d7) hout hRframes (by simp only [List.map_cons, List.sum_cons, hcat]; omega) hlocks
  obtain ⟨f1, f2⟩ := vx_frame hsame
  rw [hhp] at f1 f2
  have hWs : s.WarmedH U.vm := State.WarmedH.trans hW0 hW
  have hcl : s.vm.findClass cls = some ce.cls := by
    have h9 := hO.cls
    rw [hvm] at h9
    exact h9
  have hall : s.sameButNew ({ U with vm := s.vm } : State) locs mc ms := by
    subst hA
    obtain ⟨e1, e2⟩ := hsame
    rw [State.setFrames_setFrames] at e1
    have h2 : (T.setVm s.vm).sameButNew ({ U with vm := s.vm } : State) [] (0 + 1) (0 + 6) := ⟨e1, e2⟩
    have h3 := X.same.trans h2
    rw [List.append_nil] at h3
    exact h3.mono hc hs
  refine ⟨U, ?_, .threw T.heap.size, hrun, hend, Or.inr ⟨T.heap.size, rfl, cls, ce, locs, hx U hWs.alike f1 (fun q hq => f2 q hq (fun z hz => nomatch hz)), hce, hO.vm, hcl, hWs, hall, hf⟩⟩
  refine st1 _ ?_
  show Steps p.tables e below (T1.setTop { method := m, pc := pc + 3, locals := ls, stack := .ref T.heap.size :: rest, locked := none }) _
  jvm_step X₁.here [X₁.here.top, hexec, d3', Value.category]
  exact hsteps
/-- 'throw new E("text")': new; dup; ldc; invokespecial; athrow -/
theorem vx_throwS {cc : ByteArray} {pc : Nat} (hexec : p.tables.exec = Jvm.exec) (hb : c.code = cc) (hl : l.stackTraces = false) {own cls text : String} {names : List String} {ik is ic mc ms sa : Nat} {A : Nat → Prop}
    (hown : s.vm.findClass own = some m.cls) (hcls : Bundle.fit cls = true) (hnames : ∀ n ∈ names, Bundle.fit n = true)
    (hk : (Cond.classLink own ik cls).before args s = true) (hini : (Cond.initialized cls).before args s = true) (hstr : vk_R own is text sa s) (hat : ∀ w ∈ vx_atS own ic cls names, w.before args s = true)
    (hgood : ∀ w ∈ Cond.classLink own ik cls :: Cond.initialized cls :: vx_atS own ic cls names, vx_ot w = true)
    (hU : vx_Zq Bundle.tN "UNASSIGNED_STACK" Bundle.steD A s s.heap) (hN : vx_Zq Bundle.tN "SUPPRESSED_SENTINEL" Bundle.listD A s s.heap) (hS : va_S A s.heap H locs) (hsize : ls.size = c.maxLocals)
    (d0 : decode cc pc = .ok (.new ik, 3)) (d3 : decode cc (pc + 3) = .ok (.dup, 1)) (d4 : decode cc (pc + 4) = .ok (.ldc is, 2)) (d6 : decode cc (pc + 6) = .ok (.invokespecial ic, 3)) (d9 : decode cc (pc + 9) = .ok (.athrow, 1))
    (hout : ∀ x ∈ c.exceptionTable.toList, covers x (pc + 9) = false)
    (hRframes : names.length + 3 < R.frames) (hRlocals : (rest.map fun v => v.category).sum + (13 * (names.length + 1) + 43) ≤ R.locals) (hRcells : cells + 1 ≤ R.cells) (hRslots : slots + 6 ≤ R.slots) (hlocks : meth.locks = false)
    (hx : ∀ t : State, s.vm.Alike t.vm → H.size ≤ t.heap.size → (∀ q : Nat, q < H.size → t.heap[q]? = H[q]?) → XC cls s t)
    (hf : ∀ z ∈ locs, free z.base) (hc : cells + 1 ≤ mc) (hs : slots + 6 ≤ ms) :
    W p l e R s m args below meth c H locs cells slots (vx_MQ below Qc XC args s mc ms free) (F0 m pc ls rest) := by
  intro T hT X
  have htr : e.platform.stackTraces = false := (show e.platform.stackTraces = l.stackTraces by rw [X.admits.platform]).trans hl
  have Y := vx_rebase X (R' := { frames := R.frames, locals := R.locals, cells := 1, slots := 6 }) (Nat.le_refl _) (Nat.le_refl _) hRcells hRslots
  obtain ⟨s', hA⟩ : ∃ z, z = (T.setVm s.vm).setFrames (.invoking m args :: below) := ⟨_, rfl⟩
  rw [← hA] at Y
  have hvm : s'.vm = s.vm := by rw [hA]; rfl
  have hhp : s'.heap = H := by rw [hA]; exact hT
  have hW0 : s.WarmedH s'.vm := by rw [hvm]; exact State.WarmedH.refl s
  have hat' : ∀ w ∈ vx_atS own ic cls names, w.before args s' = true := fun w hw => vx_ot_at hW0 hvm.symm (hgood w (List.mem_cons_of_mem _ (List.mem_cons_of_mem _ hw))) (hat w hw)
  have hk' : (Cond.classLink own ik cls).before args s' = true := vx_ot_at hW0 hvm.symm (hgood _ List.mem_cons_self) hk
  have hini' : (Cond.initialized cls).before args s' = true := vx_ot_at hW0 hvm.symm (hgood _ (List.mem_cons_of_mem _ List.mem_cons_self)) hini
  have hU' : vx_Zq Bundle.tN "UNASSIGNED_STACK" Bundle.steD A s' s'.heap := by rw [hhp]; exact vx_Zq.moved hW0.alike (hU.kept hS.2.1)
  have hN' : vx_Zq Bundle.tN "SUPPRESSED_SENTINEL" Bundle.listD A s' s'.heap := by rw [hhp]; exact vx_Zq.moved hW0.alike (hN.kept hS.2.1)
  have h : ∀ w ∈ Bundle.ownAtoms own ic cls names, w.before args s' = true := vx_own hat' (vx_isRefq hU'.1) (vx_isRefq hN'.1) hU'.2.word hN'.2.word
  have hown' : s'.vm.findClass own = some m.cls := by rw [hvm]; exact hown
  have hins : (Cond.instantiable cls 6).before args s' = true := h _ (by simp [Bundle.ownAtoms])
  obtain ⟨vm₁, cX, kX, hfX, hkX, -, -, X₁, st1⟩ := Y.newCold hexec (own := own) (C := cls) (index := ik) (n := 6) hown' hk' hins hini'
    (g := F0 m pc ls rest) rfl (by rw [hb]; exact d0) (Nat.le_refl _) (Nat.le_refl _)
  generalize hT1 : (T.setVm vm₁).pushCell { cls := cX, slots := kX.instanceTypes.map defaultValue, vm := .none } = T1 at X₁ st1
  have hcat : (Value.ref T.heap.size).category = 1 := rfl
  have hcellA : T1.heap[T.heap.size]? = some (freshCell cX kX) := by rw [← hT1]; exact State.heap_pushCell_size _ _
  have d3' : decode c.code (pc + 3) = .ok (.dup, 1) := by rw [hb]; exact d3
  have d4' : decode c.code (pc + 4) = .ok (.ldc is, 2) := by rw [hb]; exact d4
  have hstr' : vk_R own is text sa s' := vk_R.warm hW0 hstr
  obtain ⟨U, hsteps, hrun, hend, hW, hsame, ce, hce, hO⟩ := X₁.ctorThrowS hexec htr (own := own) (cls := cls) (names := names) (ic := ic) hown' hcls hnames h (fun x hx => nomatch hx) hfX hkX hcellA (by rw [hhp, hT]; exact Nat.le_refl _) (msg := .ref sa) rfl
    (g := { method := m, pc := pc + 6, locals := ls, stack := .ref sa :: .ref T.heap.size :: .ref T.heap.size :: rest, locked := none }) rfl hsize rfl rfl (rest := rest) rfl
    (by rw [hb]; exact d6) (by rw [hb]; exact d9) hout hRframes (by simp only [List.map_cons, List.sum_cons, hcat]; omega) hlocks
  obtain ⟨f1, f2⟩ := vx_frame hsame
  rw [hhp] at f1 f2
  have hWs : s.WarmedH U.vm := State.WarmedH.trans hW0 hW
  have hcl : s.vm.findClass cls = some ce.cls := by
    have h9 := hO.cls
    rw [hvm] at h9
    exact h9
  have hall : s.sameButNew ({ U with vm := s.vm } : State) locs mc ms := by
    subst hA
    obtain ⟨e1, e2⟩ := hsame
    rw [State.setFrames_setFrames] at e1
    have h2 : (T.setVm s.vm).sameButNew ({ U with vm := s.vm } : State) [] (0 + 1) (0 + 6) := ⟨e1, e2⟩
    have h3 := X.same.trans h2
    rw [List.append_nil] at h3
    exact h3.mono hc hs
  refine ⟨U, ?_, .threw T.heap.size, hrun, hend, Or.inr ⟨T.heap.size, rfl, cls, ce, locs, hx U hWs.alike f1 (fun q hq => f2 q hq (fun z hz => nomatch hz)), hce, hO.vm, hcl, hWs, hall, hf⟩⟩
  refine st1 _ ?_
  show Steps p.tables e below (T1.setTop { method := m, pc := pc + 3, locals := ls, stack := .ref T.heap.size :: rest, locked := none }) _
  jvm_step X₁.here [X₁.here.top, hexec, d3', Value.category]
  exact X₁.ldcString hexec (own := own) (text := text) (index := is) (a := sa) hown' hstr'.1 hstr'.2
    (g := { method := m, pc := pc + 4, locals := ls, stack := .ref T.heap.size :: .ref T.heap.size :: rest, locked := none }) rfl d4' _ hsteps
/-- 'throw new E("text")', the text by a wide index -/
theorem vx_throwSW {cc : ByteArray} {pc : Nat} (hexec : p.tables.exec = Jvm.exec) (hb : c.code = cc) (hl : l.stackTraces = false) {own cls text : String} {names : List String} {ik is ic mc ms sa : Nat} {A : Nat → Prop}
    (hown : s.vm.findClass own = some m.cls) (hcls : Bundle.fit cls = true) (hnames : ∀ n ∈ names, Bundle.fit n = true)
    (hk : (Cond.classLink own ik cls).before args s = true) (hini : (Cond.initialized cls).before args s = true) (hstr : vk_R own is text sa s) (hat : ∀ w ∈ vx_atS own ic cls names, w.before args s = true)
    (hgood : ∀ w ∈ Cond.classLink own ik cls :: Cond.initialized cls :: vx_atS own ic cls names, vx_ot w = true)
    (hU : vx_Zq Bundle.tN "UNASSIGNED_STACK" Bundle.steD A s s.heap) (hN : vx_Zq Bundle.tN "SUPPRESSED_SENTINEL" Bundle.listD A s s.heap) (hS : va_S A s.heap H locs) (hsize : ls.size = c.maxLocals)
    (d0 : decode cc pc = .ok (.new ik, 3)) (d3 : decode cc (pc + 3) = .ok (.dup, 1)) (d4 : decode cc (pc + 4) = .ok (.ldc_w is, 3)) (d7 : decode cc (pc + 7) = .ok (.invokespecial ic, 3)) (d10 : decode cc (pc + 10) = .ok (.athrow, 1))
    (hout : ∀ x ∈ c.exceptionTable.toList, covers x (pc + 10) = false)
    (hRframes : names.length + 3 < R.frames) (hRlocals : (rest.map fun v => v.category).sum + (13 * (names.length + 1) + 43) ≤ R.locals) (hRcells : cells + 1 ≤ R.cells) (hRslots : slots + 6 ≤ R.slots) (hlocks : meth.locks = false)
    (hx : ∀ t : State, s.vm.Alike t.vm → H.size ≤ t.heap.size → (∀ q : Nat, q < H.size → t.heap[q]? = H[q]?) → XC cls s t)
    (hf : ∀ z ∈ locs, free z.base) (hc : cells + 1 ≤ mc) (hs : slots + 6 ≤ ms) :
    W p l e R s m args below meth c H locs cells slots (vx_MQ below Qc XC args s mc ms free) (F0 m pc ls rest) := by
  intro T hT X
  have htr : e.platform.stackTraces = false := (show e.platform.stackTraces = l.stackTraces by rw [X.admits.platform]).trans hl
  have Y := vx_rebase X (R' := { frames := R.frames, locals := R.locals, cells := 1, slots := 6 }) (Nat.le_refl _) (Nat.le_refl _) hRcells hRslots
  obtain ⟨s', hA⟩ : ∃ z, z = (T.setVm s.vm).setFrames (.invoking m args :: below) := ⟨_, rfl⟩
  rw [← hA] at Y
  have hvm : s'.vm = s.vm := by rw [hA]; rfl
  have hhp : s'.heap = H := by rw [hA]; exact hT
  have hW0 : s.WarmedH s'.vm := by rw [hvm]; exact State.WarmedH.refl s
  have hat' : ∀ w ∈ vx_atS own ic cls names, w.before args s' = true := fun w hw => vx_ot_at hW0 hvm.symm (hgood w (List.mem_cons_of_mem _ (List.mem_cons_of_mem _ hw))) (hat w hw)
  have hk' : (Cond.classLink own ik cls).before args s' = true := vx_ot_at hW0 hvm.symm (hgood _ List.mem_cons_self) hk
  have hini' : (Cond.initialized cls).before args s' = true := vx_ot_at hW0 hvm.symm (hgood _ (List.mem_cons_of_mem _ List.mem_cons_self)) hini
  have hU' : vx_Zq Bundle.tN "UNASSIGNED_STACK" Bundle.steD A s' s'.heap := by rw [hhp]; exact vx_Zq.moved hW0.alike (hU.kept hS.2.1)
  have hN' : vx_Zq Bundle.tN "SUPPRESSED_SENTINEL" Bundle.listD A s' s'.heap := by rw [hhp]; exact vx_Zq.moved hW0.alike (hN.kept hS.2.1)
  have h : ∀ w ∈ Bundle.ownAtoms own ic cls names, w.before args s' = true := vx_own hat' (vx_isRefq hU'.1) (vx_isRefq hN'.1) hU'.2.word hN'.2.word
  have hown' : s'.vm.findClass own = some m.cls := by rw [hvm]; exact hown
  have hins : (Cond.instantiable cls 6).before args s' = true := h _ (by simp [Bundle.ownAtoms])
  obtain ⟨vm₁, cX, kX, hfX, hkX, -, -, X₁, st1⟩ := Y.newCold hexec (own := own) (C := cls) (index := ik) (n := 6) hown' hk' hins hini'
    (g := F0 m pc ls rest) rfl (by rw [hb]; exact d0) (Nat.le_refl _) (Nat.le_refl _)
  generalize hT1 : (T.setVm vm₁).pushCell { cls := cX, slots := kX.instanceTypes.map defaultValue, vm := .none } = T1 at X₁ st1
  have hcat : (Value.ref T.heap.size).category = 1 := rfl
  have hcellA : T1.heap[T.heap.size]? = some (freshCell cX kX) := by rw [← hT1]; exact State.heap_pushCell_size _ _
  have d3' : decode c.code (pc + 3) = .ok (.dup, 1) := by rw [hb]; exact d3
  have d4' : decode c.code (pc + 4) = .ok (.ldc_w is, 3) := by rw [hb]; exact d4
  have hstr' : vk_R own is text sa s' := vk_R.warm hW0 hstr
  obtain ⟨U, hsteps, hrun, hend, hW, hsame, ce, hce, hO⟩ := X₁.ctorThrowS hexec htr (own := own) (cls := cls) (names := names) (ic := ic) hown' hcls hnames h (fun x hx => nomatch hx) hfX hkX hcellA (by rw [hhp, hT]; exact Nat.le_refl _) (msg := .ref sa) rfl
    (g := { method := m, pc := pc + 7, locals := ls, stack := .ref sa :: .ref T.heap.size :: .ref T.heap.size :: rest, locked := none }) rfl hsize rfl rfl (rest := rest) rfl
    (by rw [hb]; exact d7) (by rw [hb]; exact d10) hout hRframes (by simp only [List.map_cons, List.sum_cons, hcat]; omega) hlocks
  obtain ⟨f1, f2⟩ := vx_frame hsame
  rw [hhp] at f1 f2
  have hWs : s.WarmedH U.vm := State.WarmedH.trans hW0 hW
  have hcl : s.vm.findClass cls = some ce.cls := by
    have h9 := hO.cls
    rw [hvm] at h9
    exact h9
  have hall : s.sameButNew ({ U with vm := s.vm } : State) locs mc ms := by
    subst hA
    obtain ⟨e1, e2⟩ := hsame
    rw [State.setFrames_setFrames] at e1
    have h2 : (T.setVm s.vm).sameButNew ({ U with vm := s.vm } : State) [] (0 + 1) (0 + 6) := ⟨e1, e2⟩
    have h3 := X.same.trans h2
    rw [List.append_nil] at h3
    exact h3.mono hc hs
  refine ⟨U, ?_, .threw T.heap.size, hrun, hend, Or.inr ⟨T.heap.size, rfl, cls, ce, locs, hx U hWs.alike f1 (fun q hq => f2 q hq (fun z hz => nomatch hz)), hce, hO.vm, hcl, hWs, hall, hf⟩⟩
  refine st1 _ ?_
  show Steps p.tables e below (T1.setTop { method := m, pc := pc + 3, locals := ls, stack := .ref T.heap.size :: rest, locked := none }) _
  jvm_step X₁.here [X₁.here.top, hexec, d3', Value.category]
  exact X₁.ldcStringW hexec (own := own) (text := text) (index := is) (a := sa) hown' hstr'.1 hstr'.2
    (g := { method := m, pc := pc + 4, locals := ls, stack := .ref T.heap.size :: .ref T.heap.size :: rest, locked := none }) rfl d4' _ hsteps
end Ends
section Bodies
variable {l : Launch}
theorem vx_ofW {y : MethodName} {ws ws' : List Cond} {rm : Room} {Pc : Array Value → State → Prop} {Qc : Array Value → State → Outcome → State → Prop} {XC : String → State → State → Prop} {mc ms : Nat} {free : Addr → Prop} {cc : ByteArray} {maxL : Nat} {ret : Option FieldType}
    (hy : plainName y.cls = true) (hw : ws = Cond.code y cc maxL ret :: ws')
    (body : ∀ p e s m args below meth c s₁, BodyLoose p l y (headSpec ws rm) cc maxL ret e s m args below meth c s₁ → c.maxLocals = maxL → (∀ x ∈ c.exceptionTable.toList, False) → Pc args s →
      W p l e (headSpec ws rm).room s m args below meth c s.heap [] 0 0 (vx_MQ below Qc XC args s mc ms free) (entryFrame m args maxL)) : vx_Met l y ws rm Pc Qc XC mc ms free := by
  refine MetFree.of_bodyS (code := cc) (maxLocals := maxL) (ret := ret) hy ?_ ?_
  · intro args s m h hn
    obtain ⟨meth, c, h1, h2, h3, h4, h5, h6, -, -⟩ := Cond.code_spec hn (atoms_spec (ws := ws) h _ (by rw [hw]; exact List.mem_cons_self))
    exact ⟨meth, c, h1, h2, h3, h4, h5, h6⟩
  · intro p e s m args below meth c s₁ B hml hP _
    have hh0 : s₁.heap = s.heap := by rw [B.state]; rfl
    have ht : ∀ x ∈ c.exceptionTable.toList, False := by
      obtain ⟨meth9, c9, h1, h2, -, -, -, -, h7, -⟩ := Cond.code_spec B.named (atoms_spec (ws := ws) B.pre _ (by rw [hw]; exact List.mem_cons_self))
      cases Option.some.inj (h1.symm.trans B.method)
      cases Option.some.inj (h2.symm.trans (Stand.of_body B).code)
      intro x hx
      rw [Array.isEmpty_iff.mp h7] at hx
      cases hx
    obtain ⟨t, a1, o, b1, b2, b3⟩ := body p e s m args below meth c s₁ B hml ht hP s₁ hh0 (Stand.of_body B)
    exact ⟨t, o, a1, b1, b2, b3⟩
/-- the table of a body with handlers -/
theorem vx_table {p : Program} {x y : MethodName} {S : Spec} {cc bytes : ByteArray} {maxL maxL' : Nat} {ret ret' : Option FieldType} {e : Env} {s s₁ : State} {m : MethodId} {args : Array Value} {below : List Frame} {meth : Method} {c : Code} {hh : List (Nat × Nat × Nat × Nat)}
    (B : BodyLoose p l y S cc maxL ret e s m args below meth c s₁) (h : (Cond.codeWith y bytes maxL' ret' hh).before args s = true) : c.exceptionTable.toList = tableOf hh := by
  obtain ⟨m9, meth9, c9, hn9, h1, h2, -, -, h6, -⟩ := Cond.codeWith_spec h
  cases Option.some.inj (hn9.symm.trans B.named)
  cases Option.some.inj (h1.symm.trans B.method)
  cases Option.some.inj (h2.symm.trans (Stand.of_body B).code)
  rw [← h6, table_eq]
end Bodies
end VXA
/-! ===== END ===== -/
/-! ===== BEGIN a static call of a method with an exception table ===== -/
section VXS
variable {p : Program} {l : Launch} {e : Env} {R : Room} {s : State} {m : MethodId} {args : Array Value} {below : List Frame} {meth : Method} {c : Code} {T : State} {H : Heap} {locs : List Loc} {cells slots : Nat}
abbrev vx_CSW (R : Room) (s : State) (args : Array Value) (own : String) (index : Nat) (y : MethodName) (bytes : ByteArray) (maxL : Nat) (ret : Option FieldType) (hh : List (Nat × Nat × Nat × Nat)) (ws : List Cond) (rm : Room) (mc ms n : Nat) : Prop :=
  (rm.cells = mc ∧ rm.slots = ms ∧ rm.frames + 1 ≤ R.frames ∧ 8 + (maxL + 11) + rm.locals ≤ R.locals ∧ (∀ w ∈ ws, ∀ (a' : Array Value) (U : State), s.WarmedH U.vm → w.before a' U = true) ∧ Cond.codeWith y bytes maxL ret hh ∈ ws) ∧
  (Cond.codeWith y bytes maxL ret hh).before args s = true ∧ (Cond.initialized y.cls).before args s = true ∧ (y.cls ≠ "java/lang/invoke/MethodHandle" ∧ y.cls ≠ "java/lang/invoke/VarHandle") ∧
  (∀ sig, parseMethodDescriptor y.desc = some sig → n = sig.parameters.length) ∧ (Cond.methodLink own index y).before args s = true ∧ (Cond.static y).before args s = true
theorem vx_cwSW {own : String} {index maxL mc ms : Nat} {y : MethodName} {bytes : ByteArray} {ret : Option FieldType} {hh : List (Nat × Nat × Nat × Nat)} {Ts ws ws' : List Cond} {rm : Room} (n : Nat) (ht : ∀ w ∈ Ts, w.before args s = true) (hT : GoodIn Ts (va_wsS own index y ws)) (hw : ws = Cond.codeWith y bytes maxL ret hh :: ws') (hrc : rm.cells = mc) (hrs : rm.slots = ms)
    (hd : y.cls ≠ "java/lang/invoke/MethodHandle" ∧ y.cls ≠ "java/lang/invoke/VarHandle" ∧ (parseMethodDescriptor y.desc).map (fun d => d.parameters.length) = some n) (hR : rm.frames + 1 ≤ R.frames ∧ 8 + (maxL + 11) + rm.locals ≤ R.locals) :
    vx_CSW R s args own index y bytes maxL ret hh ws rm mc ms n := by
  have ok : ∀ w ∈ va_wsS own index y ws, w.before args s = true := fun w h => ht w (hT w h).1
  have hG : GoodIn Ts ws := fun w h => hT w (by unfold va_wsS; exact List.mem_append_right _ h)
  have hc : Cond.codeWith y bytes maxL ret hh ∈ ws := by rw [hw]; exact List.mem_cons_self
  refine ⟨⟨hrc, hrs, hR.1, hR.2, pay_in ht hG, hc⟩, ht _ (hG _ hc).1, ok _ (by simp [va_wsS]), ⟨hd.1, hd.2.1⟩, fun sig h => ?_, ok _ (by simp [va_wsS]), ok _ (by simp [va_wsS])⟩
  have h2 := hd.2.2
  rw [h] at h2
  exact (Option.some.inj h2).symm
theorem vx_callSW (X : Stand p l e R s m args below meth c T locs cells slots) (hexec : p.tables.exec = Jvm.exec) {own : String} {index : Nat} {y : MethodName} {bytes : ByteArray} {maxL : Nat} {ret : Option FieldType} {hh : List (Nat × Nat × Nat × Nat)}
    (hown : s.vm.findClass own = some m.cls) (hlink : (Cond.methodLink own index y).before args s = true) (hstat : (Cond.static y).before args s = true) (hinit : (Cond.initialized y.cls).before args s = true)
    (hcode : (Cond.codeWith y bytes maxL ret hh).before args s = true) (hy : y.cls ≠ "java/lang/invoke/MethodHandle" ∧ y.cls ≠ "java/lang/invoke/VarHandle")
    {W9 : Nat} {Pre : Pt → Array Value → Prop} {Post : Pt → Array Value → Option Value → Pt → Prop} (hK : Back l R p e below s args y 3 W9 Pre Post)
    {g : JFrame} (hg : g.method = m) (hsize : g.locals.size = c.maxLocals) {argsL rest : List Value} (hlen : ∀ sig, parseMethodDescriptor y.desc = some sig → argsL.length = sig.parameters.length)
    (hstack : g.stack = argsL.reverse ++ rest) (hW : 2 * g.monitorRoom + (rest.map fun v => v.category).sum ≤ W9) (hdg : decode c.code g.pc = .ok (.invokestatic index, 3))
    (hpre : ∀ vm₁, s.WarmedH vm₁ → Pre ⟨T.setVm vm₁, locs, cells, slots⟩ argsL.toArray) :
    ∃ (v : Option Value) (vm₁ : Vm) (B : Pt), s.WarmedH vm₁ ∧ Stand p l e R s m args below meth c B.U B.locs B.cells B.slots ∧ Post ⟨T.setVm vm₁, locs, cells, slots⟩ argsL.toArray v B ∧
      ∀ target, Steps p.tables e below (B.U.setTop { g with pc := g.pc + 3, stack := v.toList ++ rest }) target → Steps p.tables e below (T.setTop g) target := by
  obtain ⟨mk, methM, cM, hnamed, hmethM, -, -, -, -, -, -, hsigM⟩ := Cond.codeWith_spec hcode
  have hstatic : methM.isStatic = true := Cond.static_spec hnamed hmethM hstat
  obtain ⟨kP, hkP, -⟩ := className_of_methodNamed hnamed
  have hinitP : kP.init = .initialized := Cond.initialized_spec (findClass_of_methodNamed hnamed) hkP hinit
  obtain ⟨vm₁, X₁, hstep₁⟩ := X.invokestatic hexec hown hlink hnamed hmethM hstatic hkP hinitP hy (g := g) hg (argsL := argsL) (rest := rest) (hlen _ hsigM) hstack hdg
  obtain ⟨v, B, X', hpost, hsteps⟩ := hK m meth c ⟨T.setVm vm₁, locs, cells, slots⟩ { g with stack := rest } (.invokestatic index) mk argsL.toArray X₁ hg hsize hdg hW (X₁.named hnamed) (hpre vm₁ X₁.warmed)
  exact ⟨v, vm₁, B, X₁.warmed, X', hpost, fun target h => hstep₁ _ fun acts => by rw [doInvoke_state]; exact hsteps.trans h⟩
theorem vx_runSW {y : MethodName} {bytes cc : ByteArray} {maxL nL mc ms n index : Nat} {ret : Option FieldType} {hh : List (Nat × Nat × Nat × Nat)} {ws : List Cond} {rm : Room} {Pc : Array Value → State → Prop} {Qc : Array Value → State → Outcome → State → Prop} {free : Addr → Prop} {Ts : List Cond} {own : String} {As rest : List Value} {g : JFrame}
    (S : CallFix p m c cc nL s args Ts own) (hM : Met l y ws rm Pc Qc mc ms free) (cw : vx_CSW R s args own index y bytes maxL ret hh ws rm mc ms n) (hp : PreS s H Pc As)
    (hg : g.method = m) (hn : As.length = n) (hsize : g.locals.size = nL) (hstack : g.stack = As.reverse ++ rest) (hW : 2 * g.monitorRoom + (rest.map fun v => v.category).sum ≤ 8) (hdg : decode cc g.pc = .ok (.invokestatic index, 3)) (hf : cells + mc ≤ R.cells ∧ slots + ms ≤ R.slots) :
    va_Run p l e R s m args below meth c H locs cells slots mc ms g rest (Qc As.toArray) (free) := by
  obtain ⟨⟨hrc, hrs, hfr, hlo, hws, hcw⟩, hcode, hini, hy, hlen, hl, hstt⟩ := cw
  have hK : Back l R p e below s args y 3 8 (PreOf R mc ms Pc) (PostOf Qc mc ms free) := va_backW (hh := hh) (bytes := bytes) (maxL := maxL) (ret := ret) hM hp.1 hrc hrs hfr hlo hws hcw (fun a' U hW => word_at hW (Or.inl (by first | rfl | simp [Cond.onTables, Cond.keeps, Cond.steady])) hini)
  obtain ⟨hx, hb, hml, ho, -⟩ := S
  intro T hT X
  obtain ⟨v, vm₁, ⟨U', l2, c2, s2⟩, hW₁, X', ⟨g', mk, t, L, e1, e2, hq, h1, hL, h2, h3⟩, st⟩ := vx_callSW X hx (hh := hh) (bytes := bytes) (maxL := maxL) (ret := ret) ho hl hstt hini hcode hy hK hg (hsize.trans hml.symm) (argsL := As) (rest := rest) (fun sig h => hn.trans (hlen sig h)) hstack hW (by rw [hb]; exact hdg)
    (fun vm₁ hW₁ => ⟨hf.1, hf.2, hp.2 (T.setVm vm₁) hT hW₁⟩)
  dsimp only [Pt.U, Pt.locs, Pt.cells, Pt.slots] at X' e1 e2 h1 h2 h3 st
  subst h1; subst h2; subst h3
  exact ⟨v, (T.setVm vm₁).calling g' mk As.toArray, t, U', L, hT, X', hL, e1, e2, hq, st⟩
/-- not caught here, past rows that name other classes: it goes on to the caller -/
theorem vx_outP {p : Program} {l : Launch} {e : Env} {R : Room} {s : State} {m : MethodId} {args : Array Value} {below : List Frame} {meth : Method} {c : Code} {H : Heap} {locs : List Loc} {cells slots : Nat} {free : Addr → Prop} {ls : Array Slot} {rest : List Value} {Qc : Array Value → State → Outcome → State → Prop} {XC : String → State → State → Prop}
    {pc : Nat} {own E : String} {ce : Cell} {q : Addr} {mc ms : Nat} (hown : s.vm.findClass own = some m.cls) (hlocks : meth.locks = false)
    (hpass : ∀ z ∈ c.exceptionTable.toList, covers z pc = false ∨ (z.catchType ≠ 0 ∧ ∃ nm : String, (Cond.classLink own z.catchType nm).before args s = true ∧ va_Nc E nm s)) (hcell : H[q]? = some ce) (hv : ce.vm = .none) (hcl : s.vm.findClass E = some ce.cls)
    (hx : ∀ t : State, t.heap = H → s.vm.Alike t.vm → XC E s t) (hf : ∀ z ∈ locs, free z.base) (hc : cells ≤ mc) (hs : slots ≤ ms) :
    vx_W p l e R s m args below meth c H locs cells slots (vx_MQ below Qc XC args s mc ms free) (F0 m pc ls rest) q := by
  intro T hT X
  have hpl : e.platform.magicAccessors = ({} : Platform).magicAccessors := by rw [X.admits.platform]
  obtain ⟨vm', hW', X', st⟩ := X.outThrough hlocks q (g := F0 m pc ls rest) rfl rfl rfl (cell := ce) (by rw [hT]; exact hcell) (by rw [hv]; rfl)
    (by obtain ⟨k9, h9, -⟩ := Vm.findClass_spec hcl; exact ⟨k9, h9⟩) (fun z hz => by
      rcases hpass z hz with h | ⟨hz0, nm, hl1, hn1⟩
      · exact Or.inl h
      · obtain ⟨c6, hc6, hcl6⟩ := Cond.classLink_spec hown hl1 e.platform hpl
        obtain ⟨a8, b8, h1, h2, h3⟩ := hn1
        cases Option.some.inj (h1.symm.trans hcl)
        cases Option.some.inj (h2.symm.trans hc6)
        exact Or.inr ⟨hz0, _, hcl6, h3⟩)
  obtain ⟨g₀, hfr⟩ := X'.frames_eq
  have hcell9 : ((T.setVm vm').setFrames (.throwing q :: below)).heap[q]? = some ce := by
    show T.heap[q]? = some ce
    rw [hT]; exact hcell
  have hend : Ended ((T.setVm vm').setFrames (.throwing q :: below)) below (.threw q) := State.frames_setFrames _ (State.cur_lt_of_frames hfr)
  refine ⟨(T.setVm vm').setFrames (.throwing q :: below), ?_, .threw q, X'.here.running, hend, Or.inr ⟨q, rfl, E, ce, locs, hx _ hT (X'.ends _).1.alike, hcell9, hv, hcl, (X'.ends _).1, (X'.ends _).2.mono hc hs, hf⟩⟩
  rw [X.pushThrowing_eq]
  exact st
/-- a thing of a world lies in the heap -/
theorem vx_lt {D : va_G} {cl : List vw_C} {ws : va_W} {H1 : Heap} (h : va_P D cl ws H1) {k : Nat} {q : Nat × va_E} (hk : ws[k]? = some q) : q.1 < H1.size := (h k q hk).lt
end VXS
/-! ===== END ===== -/
/-! ===== BEGIN methods with a table of their own: called by a name, returning or throwing ===== -/
section VXH
/-! vx_backW, vx_callVX, vx_callSX, vx_callVW, vx_runVW, vx_runVX, vx_runSX, vx_ofWH follow the same proofs as their sisters above (Free/Laws.lean, Shelf42/LK1.lean); vx_outP calls Shelf42/NT130.lean (outThrough). -/
section
variable {l : Launch} {R : Room} {p : Program} {e : Env} {below : List Frame} {s : State} {sargs : Array Value} {y : MethodName} {len W9 : Nat}
theorem vx_backW {ws : List Cond} {rm : Room} {Pc : Array Value → State → Prop} {Qc : Array Value → State → Outcome → State → Prop} {XC : String → State → State → Prop} {mc ms : Nat} {free : Addr → Prop} {bytes : ByteArray} {maxL : Nat} {ret : Option FieldType} {hh : List (Nat × Nat × Nat × Nat)}
    (hM : vx_Met l y ws rm Pc Qc XC mc ms free) (hblind : FrameBlind Pc) (hrc : rm.cells = mc) (hrs : rm.slots = ms)
    (hframes : rm.frames + 1 ≤ R.frames) (hlocals : W9 + (maxL + 11) + rm.locals ≤ R.locals)
    (hws : ∀ w ∈ ws, ∀ a' U, s.WarmedH U.vm → w.before a' U = true) (hcode : Cond.codeWith y bytes maxL ret hh ∈ ws) (hinit : ∀ a' U, s.WarmedH U.vm → (Cond.initialized y.cls).before a' U = true) :
    vx_Back l R p e below s sargs y len W9 (PreOf R mc ms Pc) (PostOf Qc mc ms free) (vx_Post XC mc ms free) := by
  intro m meth c A g ig mk a X hg hsize hdg hW hn hp
  have h1 : (headSpec ws rm).pre.before a A.U = true := atoms_intro fun w hw => hws w hw _ _ X.warmed
  have h2 : (Cond.codeWith y bytes maxL ret hh).before a A.U = true := hws _ hcode _ _ X.warmed
  have h3 : (Cond.initialized y.cls).before a A.U = true := hinit _ _ X.warmed
  have h4 : A.cells + (headSpec ws rm).room.cells ≤ R.cells := by rw [show (headSpec ws rm).room.cells = mc from hrc]; exact hp.1
  have h5 : A.slots + (headSpec ws rm).room.slots ≤ R.slots := by rw [show (headSpec ws rm).room.slots = ms from hrs]; exact hp.2.1
  have hPc : Pc a (A.U.calling g mk a) := hblind _ _ _ _ hp.2.2
  obtain ⟨U, Ls, c0, s0⟩ := A
  dsimp only [Pt.U, Pt.locs, Pt.cells, Pt.slots] at h1 h2 h3 h4 h5 X hn hPc ⊢
  obtain ⟨m9, methY, cY, hn9, hmY, hcY, -, hlY, -⟩ := Cond.codeWith_spec h2
  cases Option.some.inj (hn9.symm.trans hn)
  obtain ⟨kY, hkY, -⟩ := className_of_methodNamed hn
  have hinitY : kY.init = .initialized := Cond.initialized_spec (findClass_of_methodNamed hn) hkY h3
  have h : At U g.method c below := by rw [hg]; exact X.here
  have hlocals9 : W9 + (maxL + 11) + (headSpec ws rm).room.locals ≤ R.locals := hlocals
  have happ : (headSpec ws rm).appliesLoose y e.platform (U.calling g mk a) = true :=
    Spec.appliesLoose_calling (g := g) h hdg hn hkY hinitY
      (X.room_calling (g := g) (R' := (headSpec ws rm).room) hsize hmY hcY hframes (by rw [hlY]; omega) h4 h5) h1
  obtain ⟨mid, hmid⟩ := h.above
  have hfr : (U.setTop g).frames = (.java g :: mid) ++ below := by rw [State.frames_setTop' g h.top, hmid]; rfl
  obtain ⟨o, s₂, hsteps, -, hend, hq⟩ := Steps.callFree hM p X.admits X.cas X.clock (acts := []) hfr happ hPc trivial
  have hq' : vx_Q Qc XC mc ms free a (U.calling g mk a) o s₂ := hq
  rw [State.frames_setTop' g h.top] at hend
  obtain ⟨g₀, hg0⟩ := Option.isSome_iff_exists.mp h.top
  obtain ⟨r, hr⟩ := State.topJava?_eq_some.mp hg0
  have hr' : (({ U with heap := s₂.heap, slotsUsed := s₂.slotsUsed } : State).setVm s₂.vm).frames = .java g₀ :: r := hr
  rcases hq' with ⟨hqc, L, hfe, hL⟩ | ⟨q, rfl, E, ce, L, hx, hce, hcv, hcl, hW₂, hsm, hL⟩
  · obtain ⟨⟨v, rfl⟩, hW₂, e2, q2, q3, q4, q5, q6⟩ := id hfe
    have e3 : s₂ = ({ (U.calling g mk a).setFrames s₂.frames with heap := s₂.heap, slotsUsed := s₂.slotsUsed } : State).setVm s₂.vm := by
      have : s₂ = ({ s₂ with vm := (U.calling g mk a).vm } : State).setVm s₂.vm := rfl
      rw [e2] at this
      exact this
    obtain ⟨c₂, i₂, len₂, hc₂, hd₂, hf₂⟩ := hend
    have hW' : U.WarmedH s₂.vm := hW₂
    have hcc : c₂ = c := by
      have h1 : s₂.code? g.method = U.code? g.method := by
        rw [State.code?_eq, State.code?_eq, hW'.alike.method?]
      exact Option.some.inj (hc₂.symm.trans (h1.trans h.code))
    subst hcc
    have hlen : len₂ = len := by rw [hdg] at hd₂; cases hd₂; rfl
    subst hlen
    have hs₂ : s₂ = (({ U with heap := s₂.heap, slotsUsed := s₂.slotsUsed } : State).setVm s₂.vm).setTop { g with pc := g.pc + len₂, stack := v.toList ++ g.stack } := by
      refine e3.trans ?_
      rw [hf₂, State.calling_eq h.top, State.setFrames_setFrames, State.setTop_of_frames _ hr', hr]
      rfl
    have hsame : U.sameButNew ({ U with heap := s₂.heap, slotsUsed := s₂.slotsUsed } : State) L mc ms := by
      refine ⟨?_, q2, q3, q4, q5, q6⟩
      obtain ⟨t, ht, -⟩ := State.frames_cons hr
      show ({ U with heap := s₂.heap, slotsUsed := s₂.slotsUsed } : State) = { U.setFrames U.frames with heap := s₂.heap, slotsUsed := s₂.slotsUsed }
      rw [State.setFrames_self ht]
    subst hg
    refine Or.inl ⟨v, ⟨(({ U with heap := s₂.heap, slotsUsed := s₂.slotsUsed } : State).setVm s₂.vm), Ls ++ L, c0 + mc, s0 + ms⟩,
      ⟨X.admits, X.cas, X.clock, X.frames, X.room, X.hears, X.method, X.code, (X.here.setHeapUsed s₂.heap s₂.slotsUsed).setVm hW'.alike, X.tail, State.WarmedH.trans X.warmed hW', X.limits, X.bytes, X.same.trans (hsame.setVm s.vm)⟩,
      ⟨g, mk, s₂, L, rfl, rfl, hqc, rfl, hL, rfl, rfl⟩, ?_⟩
    show Steps p.tables e below _ ((({ U with heap := s₂.heap, slotsUsed := s₂.slotsUsed } : State).setVm s₂.vm).setTop { g with pc := g.pc + len₂, stack := v.toList ++ g.stack })
    rw [← hs₂]
    exact hsteps
  · obtain ⟨e2, q2, q3, q4, q5, q6⟩ := id hsm
    have e3 : s₂ = ({ (U.calling g mk a).setFrames s₂.frames with heap := s₂.heap, slotsUsed := s₂.slotsUsed } : State).setVm s₂.vm := by
      have : s₂ = ({ s₂ with vm := (U.calling g mk a).vm } : State).setVm s₂.vm := rfl
      rw [e2] at this
      exact this
    have hf₂ : s₂.frames = .throwing q :: .java g :: U.frames.tail := hend
    have hW' : U.WarmedH s₂.vm := hW₂
    have hs₂ : s₂ = ((({ U with heap := s₂.heap, slotsUsed := s₂.slotsUsed } : State).setVm s₂.vm).setTop g).pushFrame (.throwing q) := by
      refine e3.trans ?_
      rw [hf₂, State.calling_eq h.top, State.setFrames_setFrames, State.pushFrame, State.frames_setTop _ hr', State.setTop_of_frames _ hr', State.setFrames_setFrames, hr]
      rfl
    have hsame : U.sameButNew ({ U with heap := s₂.heap, slotsUsed := s₂.slotsUsed } : State) L mc ms := by
      refine ⟨?_, q2, q3, q4, q5, q6⟩
      obtain ⟨t, ht, -⟩ := State.frames_cons hr
      show ({ U with heap := s₂.heap, slotsUsed := s₂.slotsUsed } : State) = { U.setFrames U.frames with heap := s₂.heap, slotsUsed := s₂.slotsUsed }
      rw [State.setFrames_self ht]
    subst hg
    refine Or.inr ⟨q, ⟨(({ U with heap := s₂.heap, slotsUsed := s₂.slotsUsed } : State).setVm s₂.vm), Ls ++ L, c0 + mc, s0 + ms⟩,
      ⟨X.admits, X.cas, X.clock, X.frames, X.room, X.hears, X.method, X.code, (X.here.setHeapUsed s₂.heap s₂.slotsUsed).setVm hW'.alike, X.tail, State.WarmedH.trans X.warmed hW', X.limits, X.bytes, X.same.trans (hsame.setVm s.vm)⟩,
      ⟨g, mk, s₂, L, E, ce, rfl, rfl, hx, hce, hcv, hcl, rfl, hL, rfl, rfl⟩, ?_⟩
    show Steps p.tables e below _ (((({ U with heap := s₂.heap, slotsUsed := s₂.slotsUsed } : State).setVm s₂.vm).setTop g).pushFrame (.throwing q))
    rw [← hs₂]
    exact hsteps
end
variable {p : Program} {l : Launch} {e : Env} {R : Room} {s : State} {m : MethodId} {args : Array Value} {below : List Frame} {meth : Method} {c : Code} {T : State} {H : Heap} {locs : List Loc} {cells slots : Nat}
theorem vx_callVX (X : Stand p l e R s m args below meth c T locs cells slots) (hexec : p.tables.exec = Jvm.exec) {own C : String} {index : Nat} {y : MethodName} {bytes : ByteArray} {maxL : Nat} {ret : Option FieldType} {hh : List (Nat × Nat × Nat × Nat)}
    (hown : s.vm.findClass own = some m.cls) (hlink : (Cond.methodLink own index y).before args s = true) (hinst : (Cond.instanceMethod y).before args s = true) (hsel : (Cond.selects C y y).before args s = true)
    (hcode : (Cond.codeWith y bytes maxL ret hh).before args s = true) (hy : y.cls ≠ "java/lang/invoke/MethodHandle" ∧ y.cls ≠ "java/lang/invoke/VarHandle")
    {W9 : Nat} {Pre : Pt → Array Value → Prop} {Post : Pt → Array Value → Option Value → Pt → Prop} {PostX : Pt → Array Value → Addr → Pt → Prop} (hK : vx_Back l R p e below s args y 3 W9 Pre Post PostX)
    {b : Addr} {cellB : Cell} (hcell : T.heap[b]? = some cellB) (hobj : cellB.vm.isStatics = false) (hcls : s.vm.findClass C = some cellB.cls)
    {g : JFrame} (hg : g.method = m) (hsize : g.locals.size = c.maxLocals) {argsL rest : List Value} (hlen : ∀ sig, parseMethodDescriptor y.desc = some sig → argsL.length = sig.parameters.length)
    (hstack : g.stack = argsL.reverse ++ .ref b :: rest) (hW : 2 * g.monitorRoom + (rest.map fun v => v.category).sum ≤ W9) (hdg : decode c.code g.pc = .ok (.invokevirtual index, 3))
    (hpre : ∀ vm₁, s.WarmedH vm₁ → Pre ⟨T.setVm vm₁, locs, cells, slots⟩ (Value.ref b :: argsL).toArray) :
    (∃ (v : Option Value) (vm₁ : Vm) (B : Pt), s.WarmedH vm₁ ∧ Stand p l e R s m args below meth c B.U B.locs B.cells B.slots ∧ Post ⟨T.setVm vm₁, locs, cells, slots⟩ (Value.ref b :: argsL).toArray v B ∧
      ∀ target, Steps p.tables e below (B.U.setTop { g with pc := g.pc + 3, stack := v.toList ++ rest }) target → Steps p.tables e below (T.setTop g) target) ∨
    (∃ (q : Addr) (vm₁ : Vm) (B : Pt), s.WarmedH vm₁ ∧ Stand p l e R s m args below meth c B.U B.locs B.cells B.slots ∧ PostX ⟨T.setVm vm₁, locs, cells, slots⟩ (Value.ref b :: argsL).toArray q B ∧
      Steps p.tables e below (T.setTop g) ((B.U.setTop { g with stack := rest }).pushFrame (.throwing q))) := by
  obtain ⟨mk, methM, hnamed, hmethM, hstM, habM⟩ := Cond.instanceMethod_spec hinst
  obtain ⟨m8, methM', cM, hn8, hmethM', -, -, -, -, -, -, hsigM⟩ := Cond.codeWith_spec hcode
  cases Option.some.inj (hn8.symm.trans hnamed)
  cases hmethM.symm.trans hmethM'
  obtain ⟨c2, r2, m2, q1, q2, q3, q4, kP, hkP, hkPi⟩ := Cond.selects_spec hsel
  cases hcls.symm.trans q1
  cases (State.methodFound?_of_named hnamed hy).symm.trans q2
  cases hnamed.symm.trans q3
  have hselP : selectMethod e.platform s.vm cellB.cls mk = .method mk := by rw [Launch.admits_selectMethod X.admits]; exact q4
  obtain ⟨vm₁, X₁, hstep₁⟩ := X.invokevirtual hexec hown hlink hnamed hmethM hstM hkP hkPi hy (a := b) (cell := cellB) hcell
    (fun z h => by rw [h] at hobj; cases hobj) hselP hmethM habM hkP hkPi (g := g) hg (argsL := argsL) (rest := rest) (hlen _ hsigM) hstack hdg
  rcases hK m meth c ⟨T.setVm vm₁, locs, cells, slots⟩ { g with stack := rest } (.invokevirtual index) mk (Value.ref b :: argsL).toArray X₁ hg hsize hdg hW (X₁.named hnamed) (hpre vm₁ X₁.warmed) with ⟨v, B, X', hpost, hsteps⟩ | ⟨q, B, X', hpost, hsteps⟩
  · exact Or.inl ⟨v, vm₁, B, X₁.warmed, X', hpost, fun target h => hstep₁ _ fun acts => by rw [doInvoke_state]; exact hsteps.trans h⟩
  · exact Or.inr ⟨q, vm₁, B, X₁.warmed, X', hpost, hstep₁ _ fun acts => by rw [doInvoke_state]; exact hsteps⟩
theorem vx_callSX (X : Stand p l e R s m args below meth c T locs cells slots) (hexec : p.tables.exec = Jvm.exec) {own : String} {index : Nat} {y : MethodName} {bytes : ByteArray} {maxL : Nat} {ret : Option FieldType} {hh : List (Nat × Nat × Nat × Nat)}
    (hown : s.vm.findClass own = some m.cls) (hlink : (Cond.methodLink own index y).before args s = true) (hstat : (Cond.static y).before args s = true) (hinit : (Cond.initialized y.cls).before args s = true)
    (hcode : (Cond.codeWith y bytes maxL ret hh).before args s = true) (hy : y.cls ≠ "java/lang/invoke/MethodHandle" ∧ y.cls ≠ "java/lang/invoke/VarHandle")
    {W9 : Nat} {Pre : Pt → Array Value → Prop} {Post : Pt → Array Value → Option Value → Pt → Prop} {PostX : Pt → Array Value → Addr → Pt → Prop} (hK : vx_Back l R p e below s args y 3 W9 Pre Post PostX)
    {g : JFrame} (hg : g.method = m) (hsize : g.locals.size = c.maxLocals) {argsL rest : List Value} (hlen : ∀ sig, parseMethodDescriptor y.desc = some sig → argsL.length = sig.parameters.length)
    (hstack : g.stack = argsL.reverse ++ rest) (hW : 2 * g.monitorRoom + (rest.map fun v => v.category).sum ≤ W9) (hdg : decode c.code g.pc = .ok (.invokestatic index, 3))
    (hpre : ∀ vm₁, s.WarmedH vm₁ → Pre ⟨T.setVm vm₁, locs, cells, slots⟩ argsL.toArray) :
    (∃ (v : Option Value) (vm₁ : Vm) (B : Pt), s.WarmedH vm₁ ∧ Stand p l e R s m args below meth c B.U B.locs B.cells B.slots ∧ Post ⟨T.setVm vm₁, locs, cells, slots⟩ argsL.toArray v B ∧
      ∀ target, Steps p.tables e below (B.U.setTop { g with pc := g.pc + 3, stack := v.toList ++ rest }) target → Steps p.tables e below (T.setTop g) target) ∨
    (∃ (q : Addr) (vm₁ : Vm) (B : Pt), s.WarmedH vm₁ ∧ Stand p l e R s m args below meth c B.U B.locs B.cells B.slots ∧ PostX ⟨T.setVm vm₁, locs, cells, slots⟩ argsL.toArray q B ∧
      Steps p.tables e below (T.setTop g) ((B.U.setTop { g with stack := rest }).pushFrame (.throwing q))) := by
  obtain ⟨mk, methM, cM, hnamed, hmethM, -, -, -, -, -, -, hsigM⟩ := Cond.codeWith_spec hcode
  have hstatic : methM.isStatic = true := Cond.static_spec hnamed hmethM hstat
  obtain ⟨kP, hkP, -⟩ := className_of_methodNamed hnamed
  have hinitP : kP.init = .initialized := Cond.initialized_spec (findClass_of_methodNamed hnamed) hkP hinit
  obtain ⟨vm₁, X₁, hstep₁⟩ := X.invokestatic hexec hown hlink hnamed hmethM hstatic hkP hinitP hy (g := g) hg (argsL := argsL) (rest := rest) (hlen _ hsigM) hstack hdg
  rcases hK m meth c ⟨T.setVm vm₁, locs, cells, slots⟩ { g with stack := rest } (.invokestatic index) mk argsL.toArray X₁ hg hsize hdg hW (X₁.named hnamed) (hpre vm₁ X₁.warmed) with ⟨v, B, X', hpost, hsteps⟩ | ⟨q, B, X', hpost, hsteps⟩
  · exact Or.inl ⟨v, vm₁, B, X₁.warmed, X', hpost, fun target h => hstep₁ _ fun acts => by rw [doInvoke_state]; exact hsteps.trans h⟩
  · exact Or.inr ⟨q, vm₁, B, X₁.warmed, X', hpost, hstep₁ _ fun acts => by rw [doInvoke_state]; exact hsteps⟩
theorem vx_callVW (X : Stand p l e R s m args below meth c T locs cells slots) (hexec : p.tables.exec = Jvm.exec) {own C : String} {index : Nat} {y : MethodName} {bytes : ByteArray} {maxL : Nat} {ret : Option FieldType} {hh : List (Nat × Nat × Nat × Nat)}
    (hown : s.vm.findClass own = some m.cls) (hlink : (Cond.methodLink own index y).before args s = true) (hinst : (Cond.instanceMethod y).before args s = true) (hsel : (Cond.selects C y y).before args s = true)
    (hcode : (Cond.codeWith y bytes maxL ret hh).before args s = true) (hy : y.cls ≠ "java/lang/invoke/MethodHandle" ∧ y.cls ≠ "java/lang/invoke/VarHandle")
    {W9 : Nat} {Pre : Pt → Array Value → Prop} {Post : Pt → Array Value → Option Value → Pt → Prop} (hK : Back l R p e below s args y 3 W9 Pre Post)
    {b : Addr} {cellB : Cell} (hcell : T.heap[b]? = some cellB) (hobj : cellB.vm.isStatics = false) (hcls : s.vm.findClass C = some cellB.cls)
    {g : JFrame} (hg : g.method = m) (hsize : g.locals.size = c.maxLocals) {argsL rest : List Value} (hlen : ∀ sig, parseMethodDescriptor y.desc = some sig → argsL.length = sig.parameters.length)
    (hstack : g.stack = argsL.reverse ++ .ref b :: rest) (hW : 2 * g.monitorRoom + (rest.map fun v => v.category).sum ≤ W9) (hdg : decode c.code g.pc = .ok (.invokevirtual index, 3))
    (hpre : ∀ vm₁, s.WarmedH vm₁ → Pre ⟨T.setVm vm₁, locs, cells, slots⟩ (Value.ref b :: argsL).toArray) :
    ∃ (v : Option Value) (vm₁ : Vm) (B : Pt), s.WarmedH vm₁ ∧ Stand p l e R s m args below meth c B.U B.locs B.cells B.slots ∧ Post ⟨T.setVm vm₁, locs, cells, slots⟩ (Value.ref b :: argsL).toArray v B ∧
      ∀ target, Steps p.tables e below (B.U.setTop { g with pc := g.pc + 3, stack := v.toList ++ rest }) target → Steps p.tables e below (T.setTop g) target := by
  obtain ⟨mk, methM, hnamed, hmethM, hstM, habM⟩ := Cond.instanceMethod_spec hinst
  obtain ⟨m8, methM', cM, hn8, hmethM', -, -, -, -, -, -, hsigM⟩ := Cond.codeWith_spec hcode
  cases Option.some.inj (hn8.symm.trans hnamed)
  cases hmethM.symm.trans hmethM'
  obtain ⟨c2, r2, m2, q1, q2, q3, q4, kP, hkP, hkPi⟩ := Cond.selects_spec hsel
  cases hcls.symm.trans q1
  cases (State.methodFound?_of_named hnamed hy).symm.trans q2
  cases hnamed.symm.trans q3
  have hselP : selectMethod e.platform s.vm cellB.cls mk = .method mk := by rw [Launch.admits_selectMethod X.admits]; exact q4
  obtain ⟨vm₁, X₁, hstep₁⟩ := X.invokevirtual hexec hown hlink hnamed hmethM hstM hkP hkPi hy (a := b) (cell := cellB) hcell
    (fun z h => by rw [h] at hobj; cases hobj) hselP hmethM habM hkP hkPi (g := g) hg (argsL := argsL) (rest := rest) (hlen _ hsigM) hstack hdg
  obtain ⟨v, B, X', hpost, hsteps⟩ := hK m meth c ⟨T.setVm vm₁, locs, cells, slots⟩ { g with stack := rest } (.invokevirtual index) mk (Value.ref b :: argsL).toArray X₁ hg hsize hdg hW (X₁.named hnamed) (hpre vm₁ X₁.warmed)
  exact ⟨v, vm₁, B, X₁.warmed, X', hpost, fun target h => hstep₁ _ fun acts => by rw [doInvoke_state]; exact hsteps.trans h⟩
abbrev vx_CVW (R : Room) (s : State) (args : Array Value) (own C : String) (index : Nat) (y : MethodName) (bytes : ByteArray) (maxL : Nat) (ret : Option FieldType) (hh : List (Nat × Nat × Nat × Nat)) (ws : List Cond) (rm : Room) (mc ms n : Nat) : Prop :=
  (rm.cells = mc ∧ rm.slots = ms ∧ rm.frames + 1 ≤ R.frames ∧ 8 + (maxL + 11) + rm.locals ≤ R.locals ∧ (∀ w ∈ ws, ∀ (a' : Array Value) (U : State), s.WarmedH U.vm → w.before a' U = true) ∧ Cond.codeWith y bytes maxL ret hh ∈ ws) ∧
  (Cond.codeWith y bytes maxL ret hh).before args s = true ∧ (Cond.initialized y.cls).before args s = true ∧ (y.cls ≠ "java/lang/invoke/MethodHandle" ∧ y.cls ≠ "java/lang/invoke/VarHandle") ∧
  (∀ sig, parseMethodDescriptor y.desc = some sig → n = sig.parameters.length) ∧ (Cond.methodLink own index y).before args s = true ∧ (Cond.instanceMethod y).before args s = true ∧ (Cond.selects C y y).before args s = true
theorem vx_cwVW {own C : String} {index maxL mc ms : Nat} {y : MethodName} {bytes : ByteArray} {ret : Option FieldType} {hh : List (Nat × Nat × Nat × Nat)} {Ts ws ws' : List Cond} {rm : Room} (n : Nat) (ht : ∀ w ∈ Ts, w.before args s = true) (hT : GoodIn Ts (wsV own index C y ws)) (hw : ws = Cond.codeWith y bytes maxL ret hh :: ws') (hrc : rm.cells = mc) (hrs : rm.slots = ms)
    (hd : y.cls = C ∧ y.cls ≠ "java/lang/invoke/MethodHandle" ∧ y.cls ≠ "java/lang/invoke/VarHandle" ∧ (parseMethodDescriptor y.desc).map (fun d => d.parameters.length) = some n) (hR : rm.frames + 1 ≤ R.frames ∧ 8 + (maxL + 11) + rm.locals ≤ R.locals) :
    vx_CVW R s args own C index y bytes maxL ret hh ws rm mc ms n := by
  obtain ⟨hC, hd⟩ := hd
  subst hC
  have ok : ∀ w ∈ wsV own index y.cls y ws, w.before args s = true := fun w h => ht w (hT w h).1
  have hG : GoodIn Ts ws := fun w h => hT w (by unfold wsV; exact List.mem_append_right _ h)
  have hc : Cond.codeWith y bytes maxL ret hh ∈ ws := by rw [hw]; exact List.mem_cons_self
  refine ⟨⟨hrc, hrs, hR.1, hR.2, pay_in ht hG, hc⟩, ht _ (hG _ hc).1, ok _ (by simp [wsV]), ⟨hd.1, hd.2.1⟩, fun sig h => ?_, ok _ (by simp [wsV]), ok _ (by simp [wsV]), ok _ (by simp [wsV])⟩
  have h2 := hd.2.2
  rw [h] at h2
  exact (Option.some.inj h2).symm
theorem vx_runVW {y : MethodName} {bytes cc : ByteArray} {maxL nL mc ms n index : Nat} {ret : Option FieldType} {hh : List (Nat × Nat × Nat × Nat)} {ws : List Cond} {rm : Room} {Pc : Array Value → State → Prop} {Qc : Array Value → State → Outcome → State → Prop} {free : Addr → Prop} {Ts : List Cond} {own C : String} {b : Addr} {As rest : List Value} {g : JFrame}
    (S : CallFix p m c cc nL s args Ts own) (hM : Met l y ws rm Pc Qc mc ms free) (cw : vx_CVW R s args own C index y bytes maxL ret hh ws rm mc ms n) (hp : PreV s H C b Pc As)
    (hg : g.method = m) (hn : As.length = n) (hsize : g.locals.size = nL) (hstack : g.stack = As.reverse ++ .ref b :: rest) (hW : 2 * g.monitorRoom + (rest.map fun v => v.category).sum ≤ 8) (hdg : decode cc g.pc = .ok (.invokevirtual index, 3)) (hf : cells + mc ≤ R.cells ∧ slots + ms ≤ R.slots) :
    va_Run p l e R s m args below meth c H locs cells slots mc ms g rest (Qc (Value.ref b :: As).toArray) free := by
  obtain ⟨⟨hrc, hrs, hfr, hlo, hws, hcw⟩, hcode, hini, hy, hlen, hl, hin, hse⟩ := cw
  have hK : Back l R p e below s args y 3 8 (PreOf R mc ms Pc) (PostOf Qc mc ms free) := va_backW (hh := hh) (bytes := bytes) (maxL := maxL) (ret := ret) hM hp.1 hrc hrs hfr hlo hws hcw (fun a' U hW => word_at hW (Or.inl (by first | rfl | simp [Cond.onTables, Cond.keeps, Cond.steady])) hini)
  obtain ⟨hx, hb, hml, ho, -⟩ := S
  obtain ⟨-, ⟨cellB, hcB, hoB, hclB⟩, hPc⟩ := hp
  intro T hT X
  obtain ⟨v, vm₁, ⟨U', l2, c2, s2⟩, hW₁, X', ⟨g', mk, t, L, e1, e2, hq, h1, hL, h2, h3⟩, st⟩ := vx_callVW X hx (C := C) (hh := hh) (bytes := bytes) (maxL := maxL) (ret := ret) ho hl hin hse hcode hy hK (by rw [hT]; exact hcB) hoB hclB hg (hsize.trans hml.symm) (argsL := As) (rest := rest) (fun sig h => hn.trans (hlen sig h)) hstack hW (by rw [hb]; exact hdg)
    (fun vm₁ hW₁ => ⟨hf.1, hf.2, hPc (T.setVm vm₁) hT hW₁⟩)
  dsimp only [Pt.U, Pt.locs, Pt.cells, Pt.slots] at X' e1 e2 h1 h2 h3 st
  subst h1; subst h2; subst h3
  exact ⟨v, (T.setVm vm₁).calling g' mk (Value.ref b :: As).toArray, t, U', L, hT, X', hL, e1, e2, hq, st⟩
section
variable {y : MethodName} {bytes cc : ByteArray} {maxL nL mc ms n index : Nat} {ret : Option FieldType} {ws : List Cond} {rm : Room} {Pc : Array Value → State → Prop} {Qc : Array Value → State → Outcome → State → Prop} {XC : String → State → State → Prop} {free : Addr → Prop} {Ts : List Cond} {own C : String} {b : Addr} {As rest : List Value} {g : JFrame}
theorem vx_runVX {hh : List (Nat × Nat × Nat × Nat)} (S : CallFix p m c cc nL s args Ts own) (hM : vx_Met l y ws rm Pc Qc XC mc ms free) (cw : vx_CVW R s args own C index y bytes maxL ret hh ws rm mc ms n) (hp : PreV s H C b Pc As)
    (hg : g.method = m) (hn : As.length = n) (hsize : g.locals.size = nL) (hstack : g.stack = As.reverse ++ .ref b :: rest) (hW : 2 * g.monitorRoom + (rest.map fun v => v.category).sum ≤ 8) (hdg : decode cc g.pc = .ok (.invokevirtual index, 3)) (hf : cells + mc ≤ R.cells ∧ slots + ms ≤ R.slots) :
    vx_Run p l e R s m args below meth c H locs cells slots mc ms g rest (Qc (Value.ref b :: As).toArray) XC free := by
  obtain ⟨⟨hrc, hrs, hfr, hlo, hws, hcw⟩, hcode, hini, hy, hlen, hl, hin, hse⟩ := cw
  have hK : vx_Back l R p e below s args y 3 8 (PreOf R mc ms Pc) (PostOf Qc mc ms free) (vx_Post XC mc ms free) := vx_backW (hh := hh) (bytes := bytes) (maxL := maxL) (ret := ret) hM hp.1 hrc hrs hfr hlo hws hcw (fun a' U hW => word_at hW (Or.inl (by first | rfl | simp [Cond.onTables, Cond.keeps, Cond.steady])) hini)
  obtain ⟨hx, hb, hml, ho, -⟩ := S
  obtain ⟨-, ⟨cellB, hcB, hoB, hclB⟩, hPc⟩ := hp
  intro T hT X
  rcases vx_callVX X hx (C := C) (hh := hh) (bytes := bytes) (maxL := maxL) (ret := ret) ho hl hin hse hcode hy hK (by rw [hT]; exact hcB) hoB hclB hg (hsize.trans hml.symm) (argsL := As) (rest := rest) (fun sig h => hn.trans (hlen sig h)) hstack hW (by rw [hb]; exact hdg)
    (fun vm₁ hW₁ => ⟨hf.1, hf.2, hPc (T.setVm vm₁) hT hW₁⟩) with ⟨v, vm₁, ⟨U', l2, c2, s2⟩, hW₁, X', ⟨g', mk, t, L, e1, e2, hq, h1, hL, h2, h3⟩, st⟩ | ⟨q, vm₁, ⟨U', l2, c2, s2⟩, hW₁, X', ⟨g', mk, t, L, E, ce, e1, e2, hq, hce, hcv, hcl, h1, hL, h2, h3⟩, st⟩
  · dsimp only [Pt.U, Pt.locs, Pt.cells, Pt.slots] at X' e1 e2 h1 h2 h3 st
    subst h1; subst h2; subst h3
    exact Or.inl ⟨v, (T.setVm vm₁).calling g' mk (Value.ref b :: As).toArray, t, U', L, hT, X', hL, e1, e2, hq, st⟩
  · dsimp only [Pt.U, Pt.locs, Pt.cells, Pt.slots] at X' e1 e2 h1 h2 h3 st hcl
    subst h1; subst h2; subst h3
    exact Or.inr ⟨q, (T.setVm vm₁).calling g' mk (Value.ref b :: As).toArray, t, U', L, E, ce, hT, X', hL, e1, e2, hq, hce, hcv, vx_cls hW₁ hcl, st⟩
theorem vx_runSX {hh : List (Nat × Nat × Nat × Nat)} (S : CallFix p m c cc nL s args Ts own) (hM : vx_Met l y ws rm Pc Qc XC mc ms free) (cw : vx_CSW R s args own index y bytes maxL ret hh ws rm mc ms n) (hp : PreS s H Pc As)
    (hg : g.method = m) (hn : As.length = n) (hsize : g.locals.size = nL) (hstack : g.stack = As.reverse ++ rest) (hW : 2 * g.monitorRoom + (rest.map fun v => v.category).sum ≤ 8) (hdg : decode cc g.pc = .ok (.invokestatic index, 3)) (hf : cells + mc ≤ R.cells ∧ slots + ms ≤ R.slots) :
    vx_Run p l e R s m args below meth c H locs cells slots mc ms g rest (Qc As.toArray) XC free := by
  obtain ⟨⟨hrc, hrs, hfr, hlo, hws, hcw⟩, hcode, hini, hy, hlen, hl, hstt⟩ := cw
  have hK : vx_Back l R p e below s args y 3 8 (PreOf R mc ms Pc) (PostOf Qc mc ms free) (vx_Post XC mc ms free) := vx_backW (hh := hh) (bytes := bytes) (maxL := maxL) (ret := ret) hM hp.1 hrc hrs hfr hlo hws hcw (fun a' U hW => word_at hW (Or.inl (by first | rfl | simp [Cond.onTables, Cond.keeps, Cond.steady])) hini)
  obtain ⟨hx, hb, hml, ho, -⟩ := S
  intro T hT X
  rcases vx_callSX X hx (hh := hh) (bytes := bytes) (maxL := maxL) (ret := ret) ho hl hstt hini hcode hy hK hg (hsize.trans hml.symm) (argsL := As) (rest := rest) (fun sig h => hn.trans (hlen sig h)) hstack hW (by rw [hb]; exact hdg)
    (fun vm₁ hW₁ => ⟨hf.1, hf.2, hp.2 (T.setVm vm₁) hT hW₁⟩) with ⟨v, vm₁, ⟨U', l2, c2, s2⟩, hW₁, X', ⟨g', mk, t, L, e1, e2, hq, h1, hL, h2, h3⟩, st⟩ | ⟨q, vm₁, ⟨U', l2, c2, s2⟩, hW₁, X', ⟨g', mk, t, L, E, ce, e1, e2, hq, hce, hcv, hcl, h1, hL, h2, h3⟩, st⟩
  · dsimp only [Pt.U, Pt.locs, Pt.cells, Pt.slots] at X' e1 e2 h1 h2 h3 st
    subst h1; subst h2; subst h3
    exact Or.inl ⟨v, (T.setVm vm₁).calling g' mk As.toArray, t, U', L, hT, X', hL, e1, e2, hq, st⟩
  · dsimp only [Pt.U, Pt.locs, Pt.cells, Pt.slots] at X' e1 e2 h1 h2 h3 st hcl
    subst h1; subst h2; subst h3
    exact Or.inr ⟨q, (T.setVm vm₁).calling g' mk As.toArray, t, U', L, E, ce, hT, X', hL, e1, e2, hq, hce, hcv, vx_cls hW₁ hcl, st⟩
end
end VXH
theorem vx_ofWH {l : Launch} {y : MethodName} {ws ws' : List Cond} {rm : Room} {Pc : Array Value → State → Prop} {Qc : Array Value → State → Outcome → State → Prop} {XC : String → State → State → Prop} {mc ms : Nat} {free : Addr → Prop} {cc : ByteArray} {maxL : Nat} {ret : Option FieldType} {hh : List (Nat × Nat × Nat × Nat)}
    (hy : plainName y.cls = true) (hw : ws = Cond.codeWith y cc maxL ret hh :: ws')
    (body : ∀ p e s m args below meth c s₁, BodyLoose p l y (headSpec ws rm) cc maxL ret e s m args below meth c s₁ → c.maxLocals = maxL → Pc args s →
      W p l e (headSpec ws rm).room s m args below meth c s.heap [] 0 0 (vx_MQ below Qc XC args s mc ms free) (entryFrame m args maxL)) : vx_Met l y ws rm Pc Qc XC mc ms free := by
  refine MetFree.of_bodyS (code := cc) (maxLocals := maxL) (ret := ret) hy ?_ ?_
  · intro args s m h hn
    obtain ⟨m9, meth, c, hn9, h1, h2, h3, h4, -, h5, h6, -⟩ := Cond.codeWith_spec (atoms_spec (ws := ws) h _ (by rw [hw]; exact List.mem_cons_self))
    cases hn.symm.trans hn9
    exact ⟨meth, c, h1, h2, h3, h4, h5, h6⟩
  · intro p e s m args below meth c s₁ B hml hP _
    have hh0 : s₁.heap = s.heap := by rw [B.state]; rfl
    obtain ⟨t, a1, o, b1, b2, b3⟩ := body p e s m args below meth c s₁ B hml hP s₁ hh0 (Stand.of_body B)
    exact ⟨t, o, a1, b1, b2, b3⟩
/-! ===== END ===== -/

/-! ===== names, by my own program ===== -/
def RX0 : String := "ToldRows$Desk"
def TX0 : u_T := fun k => match k with
  | 0 => ("ToldRows$Desk", "moments", "[I", true)
  | 1 => ("ToldRows$Desk", "moment", "I", false)
  | 2 => ("ToldRows$Desk", "seen", "I", false)
  | 3 => ("ToldRows$Desk", "waiting", "I", false)
  | _ => ("ToldRows$Desk", "inBatch", "Z", false)
def tyX0 : Nat → FieldType := fun k => match k with
  | 0 => .array .int
  | 1 => .int
  | 2 => .int
  | 3 => .int
  | _ => .boolean
theorem nmX0 : ∀ a, a < 5 → ∀ b, b < 5 → a ≠ b → (TX0 a).2.1 ≠ (TX0 b).2.1 := by decide +kernel
theorem tyX0_ok : ∀ k, k < 5 → parseFieldDescriptor (TX0 k).2.2.1 = some (tyX0 k) := by decide +kernel
def RX1 : String := "ToldRows$Teller"
def TX1 : u_T := fun k => match k with
  | 0 => ("ToldRows$Teller", "ownTimes", "[I", true)
  | 1 => ("ToldRows$Teller", "realTimes", "[I", true)
  | 2 => ("ToldRows$Teller", "marks", "I", false)
  | _ => ("ToldRows$Teller", "life", "I", false)
def tyX1 : Nat → FieldType := fun k => match k with
  | 0 => .array .int
  | 1 => .array .int
  | 2 => .int
  | _ => .int
theorem nmX1 : ∀ a, a < 4 → ∀ b, b < 4 → a ≠ b → (TX1 a).2.1 ≠ (TX1 b).2.1 := by decide +kernel
theorem tyX1_ok : ∀ k, k < 4 → parseFieldDescriptor (TX1 k).2.2.1 = some (tyX1 k) := by decide +kernel
def RX2 : String := "ToldRows$Tellings"
def TX2 : u_T := fun k => match k with
  | 0 => ("ToldRows$Tellings", "names", "[I", true)
  | 1 => ("ToldRows$Tellings", "tolds", "[I", true)
  | 2 => ("ToldRows$Tellings", "values", "[I", true)
  | 3 => ("ToldRows$Tellings", "settled", "[Z", true)
  | _ => ("ToldRows$Tellings", "count", "I", false)
def tyX2 : Nat → FieldType := fun k => match k with
  | 0 => .array .int
  | 1 => .array .int
  | 2 => .array .int
  | 3 => .array .boolean
  | _ => .int
theorem nmX2 : ∀ a, a < 5 → ∀ b, b < 5 → a ≠ b → (TX2 a).2.1 ≠ (TX2 b).2.1 := by decide +kernel
theorem tyX2_ok : ∀ k, k < 5 → parseFieldDescriptor (TX2 k).2.2.1 = some (tyX2 k) := by decide +kernel
def RX3 : String := "ToldRows"
def TX3 : u_T := fun k => match k with
  | 0 => ("ToldRows", "tellers", "[LToldRows$Teller;", true)
  | 1 => ("ToldRows", "desks", "[LToldRows$Desk;", true)
  | 2 => ("ToldRows", "kept", "LToldRows$Tellings;", true)
  | _ => ("ToldRows", "heard", "[Z", true)
def tyX3 : Nat → FieldType := fun k => match k with
  | 0 => .array (.object "ToldRows$Teller")
  | 1 => .array (.object "ToldRows$Desk")
  | 2 => .object "ToldRows$Tellings"
  | _ => .array .boolean
theorem nmX3 : ∀ a, a < 4 → ∀ b, b < 4 → a ≠ b → (TX3 a).2.1 ≠ (TX3 b).2.1 := by decide +kernel
theorem tyX3_ok : ∀ k, k < 4 → parseFieldDescriptor (TX3 k).2.2.1 = some (tyX3 k) := by decide +kernel
def RX4 : String := "ToldRowsModel"
def TX4 : u_T := fun k => match k with
  | 0 => ("ToldRowsModel", "thrown", "I", false)
  | 1 => ("ToldRowsModel", "life", "[I", true)
  | 2 => ("ToldRowsModel", "marks", "[I", true)
  | 3 => ("ToldRowsModel", "own", "[I", true)
  | 4 => ("ToldRowsModel", "real", "[I", true)
  | 5 => ("ToldRowsModel", "kept", "I", false)
  | 6 => ("ToldRowsModel", "teller", "[I", true)
  | 7 => ("ToldRowsModel", "lived", "[I", true)
  | 8 => ("ToldRowsModel", "number", "[I", true)
  | 9 => ("ToldRowsModel", "key", "[I", true)
  | 10 => ("ToldRowsModel", "value", "[I", true)
  | 11 => ("ToldRowsModel", "time", "[I", true)
  | 12 => ("ToldRowsModel", "settled", "[Z", true)
  | 13 => ("ToldRowsModel", "seen", "[I", true)
  | 14 => ("ToldRowsModel", "moment", "[I", true)
  | _ => ("ToldRowsModel", "open", "[Z", true)
def tyX4 : Nat → FieldType := fun k => match k with
  | 0 => .int
  | 1 => .array .int
  | 2 => .array .int
  | 3 => .array .int
  | 4 => .array .int
  | 5 => .int
  | 6 => .array .int
  | 7 => .array .int
  | 8 => .array .int
  | 9 => .array .int
  | 10 => .array .int
  | 11 => .array .int
  | 12 => .array .boolean
  | 13 => .array .int
  | 14 => .array .int
  | _ => .array .boolean
theorem nmX4 : ∀ a, a < 16 → ∀ b, b < 16 → a ≠ b → (TX4 a).2.1 ≠ (TX4 b).2.1 := by decide +kernel
theorem tyX4_ok : ∀ k, k < 16 → parseFieldDescriptor (TX4 k).2.2.1 = some (tyX4 k) := by decide +kernel
def RL : String := "ToldRowsLaw"
abbrev kcl : List vw_C := [(RX0, TX0, 5), (RX1, TX1, 4), (RX2, TX2, 5), (RX3, TX3, 4), (RX4, TX4, 16)]
def lw_G : List Cond := lw_tbl.filter goodWord
abbrev cX3_init : ByteArray := prog_1_method_1_code
def yX3_init : MethodName := ⟨RX3, "<init>", "()V"⟩
abbrev cX2_init : ByteArray := prog_4_method_1_code
def yX2_init : MethodName := ⟨RX2, "<init>", "()V"⟩
abbrev cX1_init : ByteArray := prog_3_method_1_code
def yX1_init : MethodName := ⟨RX1, "<init>", "()V"⟩
abbrev cX0_init : ByteArray := prog_2_method_1_code
def yX0_init : MethodName := ⟨RX0, "<init>", "()V"⟩
abbrev cL_mark : ByteArray := method_3_code
def yL_mark : MethodName := ⟨RL, "mark", "(LToldRows;III[J)I"⟩
abbrev cX3_mark : ByteArray := prog_1_method_2_code
def yX3_mark : MethodName := ⟨RX3, "mark", "(III)I"⟩
abbrev cX3_needTeller : ByteArray := prog_1_method_15_code
def yX3_needTeller : MethodName := ⟨RX3, "needTeller", "(I)V"⟩
abbrev cX3_needTime : ByteArray := prog_1_method_18_code
def yX3_needTime : MethodName := ⟨RX3, "needTime", "(I)V"⟩
abbrev cX1_canFollow : ByteArray := prog_3_method_2_code
def yX1_canFollow : MethodName := ⟨RX1, "canFollow", "(II)Z"⟩
abbrev cX1_addMark : ByteArray := prog_3_method_3_code
def yX1_addMark : MethodName := ⟨RX1, "addMark", "(II)V"⟩
abbrev cL_real : ByteArray := method_4_code
def yL_real : MethodName := ⟨RL, "real", "(LToldRows;II[J)I"⟩
abbrev cX3_real : ByteArray := prog_1_method_3_code
def yX3_real : MethodName := ⟨RX3, "real", "(II)I"⟩
abbrev cX1_realTime : ByteArray := prog_3_method_4_code
def yX1_realTime : MethodName := ⟨RX1, "realTime", "(I)I"⟩
abbrev cX1_marksUpTo : ByteArray := prog_3_method_5_code
def yX1_marksUpTo : MethodName := ⟨RX1, "marksUpTo", "(I)I"⟩
abbrev cX1_realBetween : ByteArray := prog_3_method_6_code
def yX1_realBetween : MethodName := ⟨RX1, "realBetween", "(II)I"⟩
abbrev cL_tell : ByteArray := method_5_code
def yL_tell : MethodName := ⟨RL, "tell", "(LToldRows;IIJI[J)I"⟩
abbrev cX3_tell : ByteArray := prog_1_method_4_code
def yX3_tell : MethodName := ⟨RX3, "tell", "(IIJI)I"⟩
abbrev cX3_needDesk : ByteArray := prog_1_method_16_code
def yX3_needDesk : MethodName := ⟨RX3, "needDesk", "(I)V"⟩
abbrev cX3_needTold : ByteArray := prog_1_method_19_code
def yX3_needTold : MethodName := ⟨RX3, "needTold", "(J)V"⟩
abbrev cX3_timeIn : ByteArray := prog_1_method_22_code
def yX3_timeIn : MethodName := ⟨RX3, "timeIn", "(I)I"⟩
abbrev cX3_lowBits : ByteArray := prog_1_method_21_code
def yX3_lowBits : MethodName := ⟨RX3, "lowBits", "(II)I"⟩
abbrev cX3_numberIn : ByteArray := prog_1_method_24_code
def yX3_numberIn : MethodName := ⟨RX3, "numberIn", "(I)I"⟩
abbrev cX3_nameOf : ByteArray := prog_1_method_25_code
def yX3_nameOf : MethodName := ⟨RX3, "nameOf", "(III)I"⟩
abbrev cX2_find : ByteArray := prog_4_method_2_code
def yX2_find : MethodName := ⟨RX2, "find", "(III)I"⟩
abbrev cX0_has : ByteArray := prog_2_method_2_code
def yX0_has : MethodName := ⟨RX0, "has", "(I)Z"⟩
abbrev cX2_add : ByteArray := prog_4_method_4_code
def yX2_add : MethodName := ⟨RX2, "add", "(III)I"⟩
abbrev cX3_hasRival : ByteArray := prog_1_method_26_code
def yX3_hasRival : MethodName := ⟨RX3, "hasRival", "(LToldRows$Desk;I)Z"⟩
abbrev cX2_areRivals : ByteArray := prog_4_method_6_code
def yX2_areRivals : MethodName := ⟨RX2, "areRivals", "(II)Z"⟩
abbrev cX0_take : ByteArray := prog_2_method_5_code
def yX0_take : MethodName := ⟨RX0, "take", "(I)V"⟩
abbrev cL_restart : ByteArray := method_6_code
def yL_restart : MethodName := ⟨RL, "restart", "(LToldRows;I[J)I"⟩
abbrev cX3_restart : ByteArray := prog_1_method_5_code
def yX3_restart : MethodName := ⟨RX3, "restart", "(I)I"⟩
abbrev cL_join : ByteArray := method_7_code
def yL_join : MethodName := ⟨RL, "join", "(LToldRows;II[J)I"⟩
abbrev cX3_join : ByteArray := prog_1_method_6_code
def yX3_join : MethodName := ⟨RX3, "join", "(II)I"⟩
abbrev cX0_hasSeen : ByteArray := prog_2_method_3_code
def yX0_hasSeen : MethodName := ⟨RX0, "hasSeen", "(I)Z"⟩
abbrev cL_batch : ByteArray := method_8_code
def yL_batch : MethodName := ⟨RL, "batch", "(LToldRows;IZ[J)I"⟩
abbrev cX3_batch : ByteArray := prog_1_method_7_code
def yX3_batch : MethodName := ⟨RX3, "batch", "(IZ)I"⟩
abbrev cX0_endBatch : ByteArray := prog_2_method_6_code
def yX0_endBatch : MethodName := ⟨RX0, "endBatch", "()V"⟩
abbrev cL_same : ByteArray := method_9_code
def yL_same : MethodName := ⟨RL, "same", "(LToldRows;II[J)I"⟩
abbrev cX3_same : ByteArray := prog_1_method_8_code
def yX3_same : MethodName := ⟨RX3, "same", "(II)Z"⟩
abbrev cL_conflicts : ByteArray := method_10_code
def yL_conflicts : MethodName := ⟨RL, "conflicts", "(LToldRows;I[J)I"⟩
abbrev cX3_conflicts : ByteArray := prog_1_method_9_code
def yX3_conflicts : MethodName := ⟨RX3, "conflicts", "(I)I"⟩
abbrev cX3_beginsConflict : ByteArray := prog_1_method_27_code
def yX3_beginsConflict : MethodName := ⟨RX3, "beginsConflict", "(LToldRows$Desk;I)Z"⟩
abbrev cL_settle : ByteArray := method_11_code
def yL_settle : MethodName := ⟨RL, "settle", "(LToldRows;II[J)I"⟩
abbrev cX3_settle : ByteArray := prog_1_method_10_code
def yX3_settle : MethodName := ⟨RX3, "settle", "(II)I"⟩
abbrev cX3_needName : ByteArray := prog_1_method_20_code
def yX3_needName : MethodName := ⟨RX3, "needName", "(I)V"⟩
abbrev cX2_findKth : ByteArray := prog_4_method_3_code
def yX2_findKth : MethodName := ⟨RX2, "findKth", "(II)I"⟩
abbrev cX2_settleOn : ByteArray := prog_4_method_5_code
def yX2_settleOn : MethodName := ⟨RX2, "settleOn", "(I)V"⟩
abbrev cL_last : ByteArray := method_12_code
def yL_last : MethodName := ⟨RL, "last", "(LToldRows;III[J)I"⟩
abbrev cX3_last : ByteArray := prog_1_method_11_code
def yX3_last : MethodName := ⟨RX3, "last", "(III)I"⟩
abbrev cX3_needKey : ByteArray := prog_1_method_17_code
def yX3_needKey : MethodName := ⟨RX3, "needKey", "(I)V"⟩
abbrev cX3_findLast : ByteArray := prog_1_method_29_code
def yX3_findLast : MethodName := ⟨RX3, "findLast", "(LToldRows$Desk;II)I"⟩
abbrev cX2_key : ByteArray := prog_4_method_10_code
def yX2_key : MethodName := ⟨RX2, "key", "(I)I"⟩
abbrev cX3_keyIn : ByteArray := prog_1_method_23_code
def yX3_keyIn : MethodName := ⟨RX3, "keyIn", "(I)I"⟩
abbrev cX0_hadSeen : ByteArray := prog_2_method_4_code
def yX0_hadSeen : MethodName := ⟨RX0, "hadSeen", "(II)Z"⟩
abbrev cX3_isLater : ByteArray := prog_1_method_30_code
def yX3_isLater : MethodName := ⟨RX3, "isLater", "(II)Z"⟩
abbrev cX3_realTimeOf : ByteArray := prog_1_method_31_code
def yX3_realTimeOf : MethodName := ⟨RX3, "realTimeOf", "(I)I"⟩
abbrev cX2_teller : ByteArray := prog_4_method_7_code
def yX2_teller : MethodName := ⟨RX2, "teller", "(I)I"⟩
abbrev cX2_rank : ByteArray := prog_4_method_11_code
def yX2_rank : MethodName := ⟨RX2, "rank", "(I)I"⟩
abbrev cX2_life : ByteArray := prog_4_method_8_code
def yX2_life : MethodName := ⟨RX2, "life", "(I)I"⟩
abbrev cX2_number : ByteArray := prog_4_method_9_code
def yX2_number : MethodName := ⟨RX2, "number", "(I)I"⟩
abbrev cX3_countsBy : ByteArray := prog_1_method_28_code
def yX3_countsBy : MethodName := ⟨RX3, "countsBy", "(LToldRows$Desk;II)Z"⟩
abbrev cL_known : ByteArray := method_13_code
def yL_known : MethodName := ⟨RL, "known", "(LToldRows;III[J)I"⟩
abbrev cX3_known : ByteArray := prog_1_method_12_code
def yX3_known : MethodName := ⟨RX3, "known", "(III)I"⟩
abbrev cL_many : ByteArray := method_14_code
def yL_many : MethodName := ⟨RL, "many", "(LToldRows;II[J)I"⟩
abbrev cX3_many : ByteArray := prog_1_method_13_code
def yX3_many : MethodName := ⟨RX3, "many", "(II)I"⟩
abbrev cL_gap : ByteArray := method_15_code
def yL_gap : MethodName := ⟨RL, "gap", "(LToldRows;III[J)I"⟩
abbrev cX3_gap : ByteArray := prog_1_method_14_code
def yX3_gap : MethodName := ⟨RX3, "gap", "(III)I"⟩
abbrev cX3_hear : ByteArray := prog_1_method_32_code
def yX3_hear : MethodName := ⟨RX3, "hear", "(LToldRows$Desk;I)I"⟩
abbrev cX4_init : ByteArray := prog_6_method_1_code
def yX4_init : MethodName := ⟨RX4, "<init>", "()V"⟩
abbrev cX4_thrown : ByteArray := prog_6_method_2_code
def yX4_thrown : MethodName := ⟨RX4, "thrown", "()I"⟩
abbrev cX4_mark : ByteArray := prog_6_method_7_code
def yX4_mark : MethodName := ⟨RX4, "mark", "(III)I"⟩
abbrev cX4_isTeller : ByteArray := prog_6_method_6_code
def yX4_isTeller : MethodName := ⟨RX4, "isTeller", "(I)Z"⟩
abbrev cX4_in : ByteArray := prog_6_method_4_code
def yX4_in : MethodName := ⟨RX4, "in", "(JII)Z"⟩
abbrev cX4_throwing : ByteArray := prog_6_method_3_code
def yX4_throwing : MethodName := ⟨RX4, "throwing", "(ZZZZ)Z"⟩
abbrev cX4_real : ByteArray := prog_6_method_9_code
def yX4_real : MethodName := ⟨RX4, "real", "(II)I"⟩
abbrev cX4_realOf : ByteArray := prog_6_method_8_code
def yX4_realOf : MethodName := ⟨RX4, "realOf", "(II)I"⟩
abbrev cX4_tell : ByteArray := prog_6_method_14_code
def yX4_tell : MethodName := ⟨RX4, "tell", "(IIJI)I"⟩
abbrev cX4_isDesk : ByteArray := prog_6_method_5_code
def yX4_isDesk : MethodName := ⟨RX4, "isDesk", "(I)Z"⟩
abbrev cX4_find : ByteArray := prog_6_method_13_code
def yX4_find : MethodName := ⟨RX4, "find", "(IIIII)I"⟩
abbrev cX4_has : ByteArray := prog_6_method_12_code
def yX4_has : MethodName := ⟨RX4, "has", "(II)Z"⟩
abbrev cX4_areRivals : ByteArray := prog_6_method_10_code
def yX4_areRivals : MethodName := ⟨RX4, "areRivals", "(II)Z"⟩
abbrev cX4_comes : ByteArray := prog_6_method_11_code
def yX4_comes : MethodName := ⟨RX4, "comes", "(II)V"⟩
abbrev cX4_restart : ByteArray := prog_6_method_15_code
def yX4_restart : MethodName := ⟨RX4, "restart", "(I)I"⟩
abbrev cX4_join : ByteArray := prog_6_method_16_code
def yX4_join : MethodName := ⟨RX4, "join", "(II)I"⟩
abbrev cX4_batch : ByteArray := prog_6_method_17_code
def yX4_batch : MethodName := ⟨RX4, "batch", "(IZ)I"⟩
abbrev cX4_same : ByteArray := prog_6_method_19_code
def yX4_same : MethodName := ⟨RX4, "same", "(II)Z"⟩
abbrev cX4_sees : ByteArray := prog_6_method_18_code
def yX4_sees : MethodName := ⟨RX4, "sees", "(III)Z"⟩
abbrev cX4_conflicts : ByteArray := prog_6_method_20_code
def yX4_conflicts : MethodName := ⟨RX4, "conflicts", "(I)I"⟩
abbrev cX4_settle : ByteArray := prog_6_method_21_code
def yX4_settle : MethodName := ⟨RX4, "settle", "(II)I"⟩
abbrev cX4_last : ByteArray := prog_6_method_25_code
def yX4_last : MethodName := ⟨RX4, "last", "(III)I"⟩
abbrev cX4_lastOf : ByteArray := prog_6_method_24_code
def yX4_lastOf : MethodName := ⟨RX4, "lastOf", "(III)I"⟩
abbrev cX4_counts : ByteArray := prog_6_method_22_code
def yX4_counts : MethodName := ⟨RX4, "counts", "(III)Z"⟩
abbrev cX4_isLater : ByteArray := prog_6_method_23_code
def yX4_isLater : MethodName := ⟨RX4, "isLater", "(II)Z"⟩
abbrev cX4_known : ByteArray := prog_6_method_26_code
def yX4_known : MethodName := ⟨RX4, "known", "(III)I"⟩
abbrev cX4_many : ByteArray := prog_6_method_27_code
def yX4_many : MethodName := ⟨RX4, "many", "(II)I"⟩
abbrev cX4_gap : ByteArray := prog_6_method_29_code
def yX4_gap : MethodName := ⟨RX4, "gap", "(III)I"⟩
abbrev cX4_hasNumber : ByteArray := prog_6_method_28_code
def yX4_hasNumber : MethodName := ⟨RX4, "hasNumber", "(III)Z"⟩
abbrev cL_law : ByteArray := code
def yL_law : MethodName := ⟨RL, "law", "([I)Z"⟩
theorem lw_mem {w : Cond} (i : Nat) (h : tables_1[i]? = some w) (g : goodWord w = true) : w ∈ lw_G := List.mem_filter.mpr ⟨List.mem_append_right _ (List.mem_of_getElem? h), g⟩
theorem g_0 : (Jvm.Cond.initialized "ToldRowsLaw") ∈ lw_G := lw_mem 0 (by decide +kernel) (by decide +kernel)
theorem g_1 : (Jvm.Cond.initialized "ToldRows") ∈ lw_G := lw_mem 1 (by decide +kernel) (by decide +kernel)
theorem g_2 : (Jvm.Cond.initialized "ToldRows$Tellings") ∈ lw_G := lw_mem 2 (by decide +kernel) (by decide +kernel)
theorem g_3 : (Jvm.Cond.initialized "ToldRows$Teller") ∈ lw_G := lw_mem 3 (by decide +kernel) (by decide +kernel)
theorem g_4 : (Jvm.Cond.initialized "ToldRows$Desk") ∈ lw_G := lw_mem 4 (by decide +kernel) (by decide +kernel)
theorem g_5 : (Jvm.Cond.initialized "ToldRowsModel") ∈ lw_G := lw_mem 5 (by decide +kernel) (by decide +kernel)
theorem g_6 : (Jvm.Cond.initialized "java/lang/Throwable") ∈ lw_G := lw_mem 6 (by decide +kernel) (by decide +kernel)
theorem g_7 : (Jvm.Cond.initialized "java/lang/Exception") ∈ lw_G := lw_mem 7 (by decide +kernel) (by decide +kernel)
theorem g_8 : (Jvm.Cond.initialized "java/lang/RuntimeException") ∈ lw_G := lw_mem 8 (by decide +kernel) (by decide +kernel)
theorem g_9 : (Jvm.Cond.initialized "java/lang/IndexOutOfBoundsException") ∈ lw_G := lw_mem 9 (by decide +kernel) (by decide +kernel)
theorem g_10 : (Jvm.Cond.initialized "java/lang/IllegalStateException") ∈ lw_G := lw_mem 10 (by decide +kernel) (by decide +kernel)
theorem g_11 : (Jvm.Cond.initialized "java/lang/IllegalArgumentException") ∈ lw_G := lw_mem 11 (by decide +kernel) (by decide +kernel)
theorem g_12 : (Jvm.Cond.initialized "java/lang/UnsupportedOperationException") ∈ lw_G := lw_mem 12 (by decide +kernel) (by decide +kernel)
theorem g_13 : (Jvm.Cond.initialized "java/lang/Math") ∈ lw_G := lw_mem 13 (by decide +kernel) (by decide +kernel)
theorem g_14 : (Jvm.Cond.classLink "ToldRowsLaw" (8 : Nat) "ToldRows") ∈ lw_G := lw_mem 14 (by decide +kernel) (by decide +kernel)
theorem g_15 : (Jvm.Cond.instantiable "ToldRows" (4 : Nat)) ∈ lw_G := lw_mem 15 (by decide +kernel) (by decide +kernel)
theorem g_16 : (Jvm.Cond.methodLink "ToldRowsLaw" (62 : Nat) ({ cls := "ToldRows", name := "<init>", desc := "()V" } : Jvm.MethodName)) ∈ lw_G := lw_mem 16 (by decide +kernel) (by decide +kernel)
theorem g_17 : (Jvm.Cond.instanceMethod ({ cls := "ToldRows", name := "<init>", desc := "()V" } : Jvm.MethodName)) ∈ lw_G := lw_mem 17 (by decide +kernel) (by decide +kernel)
theorem g_18 : (Jvm.Cond.code ({ cls := "ToldRows", name := "<init>", desc := "()V" } : Jvm.MethodName) prog_1_method_1_code (2 : Nat) (Option.none : Option Jvm.ClassFile.FieldType)) ∈ lw_G := lw_mem 18 (by decide +kernel) (by decide +kernel)
theorem g_19 : (Jvm.Cond.methodLink "ToldRows" (3 : Nat) ({ cls := "java/lang/Object", name := "<init>", desc := "()V" } : Jvm.MethodName)) ∈ lw_G := lw_mem 19 (by decide +kernel) (by decide +kernel)
theorem g_20 : (Jvm.Cond.instanceMethod ({ cls := "java/lang/Object", name := "<init>", desc := "()V" } : Jvm.MethodName)) ∈ lw_G := lw_mem 20 (by decide +kernel) (by decide +kernel)
theorem g_21 : (Jvm.Cond.code ({ cls := "java/lang/Object", name := "<init>", desc := "()V" } : Jvm.MethodName) object_method_1_code (1 : Nat) (Option.none : Option Jvm.ClassFile.FieldType)) ∈ lw_G := lw_mem 21 (by decide +kernel) (by decide +kernel)
theorem g_22 : (Jvm.Cond.classLink "ToldRows" (9 : Nat) "ToldRows$Teller") ∈ lw_G := lw_mem 22 (by decide +kernel) (by decide +kernel)
theorem g_24 : (Jvm.Cond.classLink "ToldRows" (15 : Nat) "ToldRows$Desk") ∈ lw_G := lw_mem 24 (by decide +kernel) (by decide +kernel)
theorem g_26 : (Jvm.Cond.classLink "ToldRows" (21 : Nat) "ToldRows$Tellings") ∈ lw_G := lw_mem 26 (by decide +kernel) (by decide +kernel)
theorem g_27 : (Jvm.Cond.instantiable "ToldRows$Tellings" (5 : Nat)) ∈ lw_G := lw_mem 27 (by decide +kernel) (by decide +kernel)
theorem g_29 : (Jvm.Cond.instanceMethod ({ cls := "ToldRows$Tellings", name := "<init>", desc := "()V" } : Jvm.MethodName)) ∈ lw_G := lw_mem 29 (by decide +kernel) (by decide +kernel)
theorem g_30 : (Jvm.Cond.code ({ cls := "ToldRows$Tellings", name := "<init>", desc := "()V" } : Jvm.MethodName) prog_4_method_1_code (1 : Nat) (Option.none : Option Jvm.ClassFile.FieldType)) ∈ lw_G := lw_mem 30 (by decide +kernel) (by decide +kernel)
theorem g_31 : (Jvm.Cond.methodLink "ToldRows$Tellings" (3 : Nat) ({ cls := "java/lang/Object", name := "<init>", desc := "()V" } : Jvm.MethodName)) ∈ lw_G := lw_mem 31 (by decide +kernel) (by decide +kernel)
theorem g_32 : (Jvm.Cond.fieldLink "ToldRows$Tellings" (9 : Nat) "ToldRows$Tellings" "names" "[I") ∈ lw_G := lw_mem 32 (by decide +kernel) (by decide +kernel)
theorem g_33 : (Jvm.Cond.fieldLink "ToldRows" (234 : Nat) "ToldRows$Tellings" "names" "[I") ∈ lw_G := lw_mem 33 (by decide +kernel) (by decide +kernel)
theorem g_34 : (Jvm.Cond.fieldLink "ToldRows$Tellings" (15 : Nat) "ToldRows$Tellings" "tolds" "[I") ∈ lw_G := lw_mem 34 (by decide +kernel) (by decide +kernel)
theorem g_35 : (Jvm.Cond.fieldLink "ToldRows" (231 : Nat) "ToldRows$Tellings" "tolds" "[I") ∈ lw_G := lw_mem 35 (by decide +kernel) (by decide +kernel)
theorem g_36 : (Jvm.Cond.fieldLink "ToldRows$Tellings" (18 : Nat) "ToldRows$Tellings" "values" "[I") ∈ lw_G := lw_mem 36 (by decide +kernel) (by decide +kernel)
theorem g_37 : (Jvm.Cond.fieldLink "ToldRows" (150 : Nat) "ToldRows$Tellings" "values" "[I") ∈ lw_G := lw_mem 37 (by decide +kernel) (by decide +kernel)
theorem g_38 : (Jvm.Cond.fieldLink "ToldRows$Tellings" (21 : Nat) "ToldRows$Tellings" "settled" "[Z") ∈ lw_G := lw_mem 38 (by decide +kernel) (by decide +kernel)
theorem g_39 : (Jvm.Cond.fieldLink "ToldRows" (212 : Nat) "ToldRows$Tellings" "settled" "[Z") ∈ lw_G := lw_mem 39 (by decide +kernel) (by decide +kernel)
theorem g_40 : (Jvm.Cond.fieldLink "ToldRows$Tellings" (25 : Nat) "ToldRows$Tellings" "count" "I") ∈ lw_G := lw_mem 40 (by decide +kernel) (by decide +kernel)
theorem g_41 : (Jvm.Cond.fieldLink "ToldRows" (89 : Nat) "ToldRows$Tellings" "count" "I") ∈ lw_G := lw_mem 41 (by decide +kernel) (by decide +kernel)
theorem g_42 : (Jvm.Cond.laysFinal "ToldRows$Tellings" "ToldRows$Tellings" "names" "[I") ∈ lw_G := lw_mem 42 (by decide +kernel) (by decide +kernel)
theorem g_44 : (Jvm.Cond.laysFinal "ToldRows$Tellings" "ToldRows$Tellings" "tolds" "[I") ∈ lw_G := lw_mem 44 (by decide +kernel) (by decide +kernel)
theorem g_46 : (Jvm.Cond.laysFinal "ToldRows$Tellings" "ToldRows$Tellings" "values" "[I") ∈ lw_G := lw_mem 46 (by decide +kernel) (by decide +kernel)
theorem g_48 : (Jvm.Cond.laysFinal "ToldRows$Tellings" "ToldRows$Tellings" "settled" "[Z") ∈ lw_G := lw_mem 48 (by decide +kernel) (by decide +kernel)
theorem g_50 : (Jvm.Cond.lays "ToldRows$Tellings" "ToldRows$Tellings" "count" "I") ∈ lw_G := lw_mem 50 (by decide +kernel) (by decide +kernel)
theorem g_53 : (Jvm.Cond.arrayClass Jvm.ClassFile.FieldType.int) ∈ lw_G := lw_mem 53 (by decide +kernel) (by decide +kernel)
theorem g_54 : (Jvm.Cond.arrayClass Jvm.ClassFile.FieldType.boolean) ∈ lw_G := lw_mem 54 (by decide +kernel) (by decide +kernel)
theorem g_55 : (Jvm.Cond.instantiable "ToldRows$Teller" (4 : Nat)) ∈ lw_G := lw_mem 55 (by decide +kernel) (by decide +kernel)
theorem g_57 : (Jvm.Cond.instanceMethod ({ cls := "ToldRows$Teller", name := "<init>", desc := "()V" } : Jvm.MethodName)) ∈ lw_G := lw_mem 57 (by decide +kernel) (by decide +kernel)
theorem g_58 : (Jvm.Cond.code ({ cls := "ToldRows$Teller", name := "<init>", desc := "()V" } : Jvm.MethodName) prog_3_method_1_code (1 : Nat) (Option.none : Option Jvm.ClassFile.FieldType)) ∈ lw_G := lw_mem 58 (by decide +kernel) (by decide +kernel)
theorem g_59 : (Jvm.Cond.methodLink "ToldRows$Teller" (3 : Nat) ({ cls := "java/lang/Object", name := "<init>", desc := "()V" } : Jvm.MethodName)) ∈ lw_G := lw_mem 59 (by decide +kernel) (by decide +kernel)
theorem g_60 : (Jvm.Cond.fieldLink "ToldRows$Teller" (9 : Nat) "ToldRows$Teller" "ownTimes" "[I") ∈ lw_G := lw_mem 60 (by decide +kernel) (by decide +kernel)
theorem g_61 : (Jvm.Cond.fieldLink "ToldRows$Teller" (15 : Nat) "ToldRows$Teller" "realTimes" "[I") ∈ lw_G := lw_mem 61 (by decide +kernel) (by decide +kernel)
theorem g_62 : (Jvm.Cond.fieldLink "ToldRows$Teller" (18 : Nat) "ToldRows$Teller" "marks" "I") ∈ lw_G := lw_mem 62 (by decide +kernel) (by decide +kernel)
theorem g_63 : (Jvm.Cond.fieldLink "ToldRows" (38 : Nat) "ToldRows$Teller" "marks" "I") ∈ lw_G := lw_mem 63 (by decide +kernel) (by decide +kernel)
theorem g_64 : (Jvm.Cond.fieldLink "ToldRows" (76 : Nat) "ToldRows$Teller" "life" "I") ∈ lw_G := lw_mem 64 (by decide +kernel) (by decide +kernel)
theorem g_65 : (Jvm.Cond.laysFinal "ToldRows$Teller" "ToldRows$Teller" "ownTimes" "[I") ∈ lw_G := lw_mem 65 (by decide +kernel) (by decide +kernel)
theorem g_67 : (Jvm.Cond.laysFinal "ToldRows$Teller" "ToldRows$Teller" "realTimes" "[I") ∈ lw_G := lw_mem 67 (by decide +kernel) (by decide +kernel)
theorem g_69 : (Jvm.Cond.lays "ToldRows$Teller" "ToldRows$Teller" "marks" "I") ∈ lw_G := lw_mem 69 (by decide +kernel) (by decide +kernel)
theorem g_71 : (Jvm.Cond.lays "ToldRows$Teller" "ToldRows$Teller" "life" "I") ∈ lw_G := lw_mem 71 (by decide +kernel) (by decide +kernel)
theorem g_74 : (Jvm.Cond.instantiable "ToldRows$Desk" (5 : Nat)) ∈ lw_G := lw_mem 74 (by decide +kernel) (by decide +kernel)
theorem g_76 : (Jvm.Cond.instanceMethod ({ cls := "ToldRows$Desk", name := "<init>", desc := "()V" } : Jvm.MethodName)) ∈ lw_G := lw_mem 76 (by decide +kernel) (by decide +kernel)
theorem g_77 : (Jvm.Cond.code ({ cls := "ToldRows$Desk", name := "<init>", desc := "()V" } : Jvm.MethodName) prog_2_method_1_code (1 : Nat) (Option.none : Option Jvm.ClassFile.FieldType)) ∈ lw_G := lw_mem 77 (by decide +kernel) (by decide +kernel)
theorem g_78 : (Jvm.Cond.methodLink "ToldRows$Desk" (3 : Nat) ({ cls := "java/lang/Object", name := "<init>", desc := "()V" } : Jvm.MethodName)) ∈ lw_G := lw_mem 78 (by decide +kernel) (by decide +kernel)
theorem g_79 : (Jvm.Cond.fieldLink "ToldRows$Desk" (9 : Nat) "ToldRows$Desk" "moments" "[I") ∈ lw_G := lw_mem 79 (by decide +kernel) (by decide +kernel)
theorem g_80 : (Jvm.Cond.fieldLink "ToldRows$Desk" (23 : Nat) "ToldRows$Desk" "moment" "I") ∈ lw_G := lw_mem 80 (by decide +kernel) (by decide +kernel)
theorem g_81 : (Jvm.Cond.fieldLink "ToldRows" (130 : Nat) "ToldRows$Desk" "moment" "I") ∈ lw_G := lw_mem 81 (by decide +kernel) (by decide +kernel)
theorem g_82 : (Jvm.Cond.fieldLink "ToldRows$Desk" (26 : Nat) "ToldRows$Desk" "seen" "I") ∈ lw_G := lw_mem 82 (by decide +kernel) (by decide +kernel)
theorem g_83 : (Jvm.Cond.fieldLink "ToldRows" (180 : Nat) "ToldRows$Desk" "seen" "I") ∈ lw_G := lw_mem 83 (by decide +kernel) (by decide +kernel)
theorem g_84 : (Jvm.Cond.fieldLink "ToldRows$Desk" (19 : Nat) "ToldRows$Desk" "waiting" "I") ∈ lw_G := lw_mem 84 (by decide +kernel) (by decide +kernel)
theorem g_85 : (Jvm.Cond.fieldLink "ToldRows" (183 : Nat) "ToldRows$Desk" "waiting" "I") ∈ lw_G := lw_mem 85 (by decide +kernel) (by decide +kernel)
theorem g_86 : (Jvm.Cond.fieldLink "ToldRows$Desk" (15 : Nat) "ToldRows$Desk" "inBatch" "Z") ∈ lw_G := lw_mem 86 (by decide +kernel) (by decide +kernel)
theorem g_87 : (Jvm.Cond.fieldLink "ToldRows" (121 : Nat) "ToldRows$Desk" "inBatch" "Z") ∈ lw_G := lw_mem 87 (by decide +kernel) (by decide +kernel)
theorem g_88 : (Jvm.Cond.laysFinal "ToldRows$Desk" "ToldRows$Desk" "moments" "[I") ∈ lw_G := lw_mem 88 (by decide +kernel) (by decide +kernel)
theorem g_90 : (Jvm.Cond.lays "ToldRows$Desk" "ToldRows$Desk" "moment" "I") ∈ lw_G := lw_mem 90 (by decide +kernel) (by decide +kernel)
theorem g_92 : (Jvm.Cond.lays "ToldRows$Desk" "ToldRows$Desk" "seen" "I") ∈ lw_G := lw_mem 92 (by decide +kernel) (by decide +kernel)
theorem g_94 : (Jvm.Cond.lays "ToldRows$Desk" "ToldRows$Desk" "waiting" "I") ∈ lw_G := lw_mem 94 (by decide +kernel) (by decide +kernel)
theorem g_96 : (Jvm.Cond.lays "ToldRows$Desk" "ToldRows$Desk" "inBatch" "Z") ∈ lw_G := lw_mem 96 (by decide +kernel) (by decide +kernel)
theorem g_99 : (Jvm.Cond.fieldLink "ToldRows" (11 : Nat) "ToldRows" "tellers" "[LToldRows$Teller;") ∈ lw_G := lw_mem 99 (by decide +kernel) (by decide +kernel)
theorem g_100 : (Jvm.Cond.fieldLink "ToldRows" (17 : Nat) "ToldRows" "desks" "[LToldRows$Desk;") ∈ lw_G := lw_mem 100 (by decide +kernel) (by decide +kernel)
theorem g_101 : (Jvm.Cond.fieldLink "ToldRows" (24 : Nat) "ToldRows" "kept" "LToldRows$Tellings;") ∈ lw_G := lw_mem 101 (by decide +kernel) (by decide +kernel)
theorem g_102 : (Jvm.Cond.fieldLink "ToldRows" (28 : Nat) "ToldRows" "heard" "[Z") ∈ lw_G := lw_mem 102 (by decide +kernel) (by decide +kernel)
theorem g_103 : (Jvm.Cond.laysFinal "ToldRows" "ToldRows" "tellers" "[LToldRows$Teller;") ∈ lw_G := lw_mem 103 (by decide +kernel) (by decide +kernel)
theorem g_105 : (Jvm.Cond.laysFinal "ToldRows" "ToldRows" "desks" "[LToldRows$Desk;") ∈ lw_G := lw_mem 105 (by decide +kernel) (by decide +kernel)
theorem g_107 : (Jvm.Cond.laysFinal "ToldRows" "ToldRows" "kept" "LToldRows$Tellings;") ∈ lw_G := lw_mem 107 (by decide +kernel) (by decide +kernel)
theorem g_109 : (Jvm.Cond.laysFinal "ToldRows" "ToldRows" "heard" "[Z") ∈ lw_G := lw_mem 109 (by decide +kernel) (by decide +kernel)
theorem g_112 : (Jvm.Cond.methodLink "ToldRowsLaw" (66 : Nat) ({ cls := "ToldRowsLaw", name := "mark", desc := "(LToldRows;III[J)I" } : Jvm.MethodName)) ∈ lw_G := lw_mem 112 (by decide +kernel) (by decide +kernel)
theorem g_113 : (Jvm.Cond.static ({ cls := "ToldRowsLaw", name := "mark", desc := "(LToldRows;III[J)I" } : Jvm.MethodName)) ∈ lw_G := lw_mem 113 (by decide +kernel) (by decide +kernel)
theorem g_114 : (Jvm.Cond.codeWith ({ cls := "ToldRowsLaw", name := "mark", desc := "(LToldRows;III[J)I" } : Jvm.MethodName) method_3_code (6 : Nat) (Option.some Jvm.ClassFile.FieldType.int) [((0 : Nat), (12 : Nat), (15 : Nat), (13 : Nat)), ((0 : Nat), (12 : Nat), (19 : Nat), (15 : Nat)), ((0 : Nat), (12 : Nat), (23 : Nat), (17 : Nat))]) ∈ lw_G := lw_mem 114 (by decide +kernel) (by decide +kernel)
theorem g_115 : (Jvm.Cond.classLink "ToldRowsLaw" (13 : Nat) "java/lang/IndexOutOfBoundsException") ∈ lw_G := lw_mem 115 (by decide +kernel) (by decide +kernel)
theorem g_116 : (Jvm.Cond.classLink "ToldRowsLaw" (15 : Nat) "java/lang/IllegalStateException") ∈ lw_G := lw_mem 116 (by decide +kernel) (by decide +kernel)
theorem g_117 : (Jvm.Cond.classLink "ToldRowsLaw" (17 : Nat) "java/lang/IllegalArgumentException") ∈ lw_G := lw_mem 117 (by decide +kernel) (by decide +kernel)
theorem g_118 : (Jvm.Cond.methodLink "ToldRowsLaw" (7 : Nat) ({ cls := "ToldRows", name := "mark", desc := "(III)I" } : Jvm.MethodName)) ∈ lw_G := lw_mem 118 (by decide +kernel) (by decide +kernel)
theorem g_119 : (Jvm.Cond.instanceMethod ({ cls := "ToldRows", name := "mark", desc := "(III)I" } : Jvm.MethodName)) ∈ lw_G := lw_mem 119 (by decide +kernel) (by decide +kernel)
theorem g_120 : (Jvm.Cond.selects "ToldRows" ({ cls := "ToldRows", name := "mark", desc := "(III)I" } : Jvm.MethodName) ({ cls := "ToldRows", name := "mark", desc := "(III)I" } : Jvm.MethodName)) ∈ lw_G := lw_mem 120 (by decide +kernel) (by decide +kernel)
theorem g_121 : (Jvm.Cond.code ({ cls := "ToldRows", name := "mark", desc := "(III)I" } : Jvm.MethodName) prog_1_method_2_code (5 : Nat) (Option.some Jvm.ClassFile.FieldType.int)) ∈ lw_G := lw_mem 121 (by decide +kernel) (by decide +kernel)
theorem g_122 : (Jvm.Cond.methodLink "ToldRows" (34 : Nat) ({ cls := "ToldRows", name := "needTeller", desc := "(I)V" } : Jvm.MethodName)) ∈ lw_G := lw_mem 122 (by decide +kernel) (by decide +kernel)
theorem g_123 : (Jvm.Cond.static ({ cls := "ToldRows", name := "needTeller", desc := "(I)V" } : Jvm.MethodName)) ∈ lw_G := lw_mem 123 (by decide +kernel) (by decide +kernel)
theorem g_124 : (Jvm.Cond.code ({ cls := "ToldRows", name := "needTeller", desc := "(I)V" } : Jvm.MethodName) prog_1_method_15_code (1 : Nat) (Option.none : Option Jvm.ClassFile.FieldType)) ∈ lw_G := lw_mem 124 (by decide +kernel) (by decide +kernel)
theorem g_125 : (Jvm.Cond.classLink "ToldRows" (113 : Nat) "java/lang/IndexOutOfBoundsException") ∈ lw_G := lw_mem 125 (by decide +kernel) (by decide +kernel)
theorem g_126 : (Jvm.Cond.instantiable "java/lang/IndexOutOfBoundsException" (6 : Nat)) ∈ lw_G := lw_mem 126 (by decide +kernel) (by decide +kernel)
theorem g_134 : (Jvm.Cond.selects "java/lang/IndexOutOfBoundsException" ({ cls := "java/lang/Throwable", name := "fillInStackTrace", desc := "(I)Ljava/lang/Throwable;" } : Jvm.MethodName) ({ cls := "java/lang/Throwable", name := "fillInStackTrace", desc := "(I)Ljava/lang/Throwable;" } : Jvm.MethodName)) ∈ lw_G := lw_mem 134 (by decide +kernel) (by decide +kernel)
theorem g_135 : (Jvm.Cond.selects "java/lang/IndexOutOfBoundsException" ({ cls := "java/lang/Throwable", name := "fillInStackTrace", desc := "()Ljava/lang/Throwable;" } : Jvm.MethodName) ({ cls := "java/lang/Throwable", name := "fillInStackTrace", desc := "()Ljava/lang/Throwable;" } : Jvm.MethodName)) ∈ lw_G := lw_mem 135 (by decide +kernel) (by decide +kernel)
theorem g_136 : (Jvm.Cond.lays "java/lang/IndexOutOfBoundsException" "java/lang/Throwable" "cause" "Ljava/lang/Throwable;") ∈ lw_G := lw_mem 136 (by decide +kernel) (by decide +kernel)
theorem g_137 : (Jvm.Cond.lays "java/lang/Throwable" "java/lang/Throwable" "cause" "Ljava/lang/Throwable;") ∈ lw_G := lw_mem 137 (by decide +kernel) (by decide +kernel)
theorem g_138 : (Jvm.Cond.lays "java/lang/IndexOutOfBoundsException" "java/lang/Throwable" "stackTrace" "[Ljava/lang/StackTraceElement;") ∈ lw_G := lw_mem 138 (by decide +kernel) (by decide +kernel)
theorem g_139 : (Jvm.Cond.lays "java/lang/Throwable" "java/lang/Throwable" "stackTrace" "[Ljava/lang/StackTraceElement;") ∈ lw_G := lw_mem 139 (by decide +kernel) (by decide +kernel)
theorem g_140 : (Jvm.Cond.lays "java/lang/IndexOutOfBoundsException" "java/lang/Throwable" "suppressedExceptions" "Ljava/util/List;") ∈ lw_G := lw_mem 140 (by decide +kernel) (by decide +kernel)
theorem g_141 : (Jvm.Cond.lays "java/lang/Throwable" "java/lang/Throwable" "suppressedExceptions" "Ljava/util/List;") ∈ lw_G := lw_mem 141 (by decide +kernel) (by decide +kernel)
theorem g_142 : (Jvm.Cond.lays "java/lang/IndexOutOfBoundsException" "java/lang/Throwable" "detailMessage" "Ljava/lang/String;") ∈ lw_G := lw_mem 142 (by decide +kernel) (by decide +kernel)
theorem g_143 : (Jvm.Cond.lays "java/lang/Throwable" "java/lang/Throwable" "detailMessage" "Ljava/lang/String;") ∈ lw_G := lw_mem 143 (by decide +kernel) (by decide +kernel)
theorem g_144 : (Jvm.Cond.lays "java/lang/IndexOutOfBoundsException" "java/lang/Throwable" "backtrace" "Ljava/lang/Object;") ∈ lw_G := lw_mem 144 (by decide +kernel) (by decide +kernel)
theorem g_145 : (Jvm.Cond.lays "java/lang/Throwable" "java/lang/Throwable" "backtrace" "Ljava/lang/Object;") ∈ lw_G := lw_mem 145 (by decide +kernel) (by decide +kernel)
theorem g_146 : (Jvm.Cond.fieldLink "java/lang/Throwable" (198 : Nat) "java/lang/Throwable" "backtrace" "Ljava/lang/Object;") ∈ lw_G := lw_mem 146 (by decide +kernel) (by decide +kernel)
theorem g_148 : (Jvm.Cond.instanceMethod ({ cls := "java/lang/Throwable", name := "<init>", desc := "()V" } : Jvm.MethodName)) ∈ lw_G := lw_mem 148 (by decide +kernel) (by decide +kernel)
theorem g_149 : (Jvm.Cond.code ({ cls := "java/lang/Throwable", name := "<init>", desc := "()V" } : Jvm.MethodName) prog_14_method_1_code (1 : Nat) (Option.none : Option Jvm.ClassFile.FieldType)) ∈ lw_G := lw_mem 149 (by decide +kernel) (by decide +kernel)
theorem g_150 : (Jvm.Cond.methodLink "java/lang/Throwable" (1 : Nat) ({ cls := "java/lang/Object", name := "<init>", desc := "()V" } : Jvm.MethodName)) ∈ lw_G := lw_mem 150 (by decide +kernel) (by decide +kernel)
theorem g_151 : (Jvm.Cond.fieldLink "java/lang/Throwable" (13 : Nat) "java/lang/Throwable" "UNASSIGNED_STACK" "[Ljava/lang/StackTraceElement;") ∈ lw_G := lw_mem 151 (by decide +kernel) (by decide +kernel)
theorem g_153 : (Jvm.Cond.fieldLink "java/lang/Throwable" (20 : Nat) "java/lang/Throwable" "SUPPRESSED_SENTINEL" "Ljava/util/List;") ∈ lw_G := lw_mem 153 (by decide +kernel) (by decide +kernel)
theorem g_155 : (Jvm.Cond.methodLink "java/lang/Throwable" (27 : Nat) ({ cls := "java/lang/Throwable", name := "fillInStackTrace", desc := "()Ljava/lang/Throwable;" } : Jvm.MethodName)) ∈ lw_G := lw_mem 155 (by decide +kernel) (by decide +kernel)
theorem g_156 : (Jvm.Cond.instanceMethod ({ cls := "java/lang/Throwable", name := "fillInStackTrace", desc := "()Ljava/lang/Throwable;" } : Jvm.MethodName)) ∈ lw_G := lw_mem 156 (by decide +kernel) (by decide +kernel)
theorem g_158 : (Jvm.Cond.selects "java/lang/IllegalArgumentException" ({ cls := "java/lang/Throwable", name := "fillInStackTrace", desc := "()Ljava/lang/Throwable;" } : Jvm.MethodName) ({ cls := "java/lang/Throwable", name := "fillInStackTrace", desc := "()Ljava/lang/Throwable;" } : Jvm.MethodName)) ∈ lw_G := lw_mem 158 (by decide +kernel) (by decide +kernel)
theorem g_159 : (Jvm.Cond.selects "java/lang/IllegalStateException" ({ cls := "java/lang/Throwable", name := "fillInStackTrace", desc := "()Ljava/lang/Throwable;" } : Jvm.MethodName) ({ cls := "java/lang/Throwable", name := "fillInStackTrace", desc := "()Ljava/lang/Throwable;" } : Jvm.MethodName)) ∈ lw_G := lw_mem 159 (by decide +kernel) (by decide +kernel)
theorem g_160 : (Jvm.Cond.selects "java/lang/UnsupportedOperationException" ({ cls := "java/lang/Throwable", name := "fillInStackTrace", desc := "()Ljava/lang/Throwable;" } : Jvm.MethodName) ({ cls := "java/lang/Throwable", name := "fillInStackTrace", desc := "()Ljava/lang/Throwable;" } : Jvm.MethodName)) ∈ lw_G := lw_mem 160 (by decide +kernel) (by decide +kernel)
theorem g_162 : (Jvm.Cond.methodLink "java/lang/Throwable" (202 : Nat) ({ cls := "java/lang/Throwable", name := "fillInStackTrace", desc := "(I)Ljava/lang/Throwable;" } : Jvm.MethodName)) ∈ lw_G := lw_mem 162 (by decide +kernel) (by decide +kernel)
theorem g_164 : (Jvm.Cond.instanceMethod ({ cls := "java/lang/Throwable", name := "fillInStackTrace", desc := "(I)Ljava/lang/Throwable;" } : Jvm.MethodName)) ∈ lw_G := lw_mem 164 (by decide +kernel) (by decide +kernel)
theorem g_165 : (Jvm.Cond.instantiable "java/lang/Throwable" (6 : Nat)) ∈ lw_G := lw_mem 165 (by decide +kernel) (by decide +kernel)
theorem g_168 : (Jvm.Cond.methodLink "ToldRows" (117 : Nat) ({ cls := "java/lang/IndexOutOfBoundsException", name := "<init>", desc := "(Ljava/lang/String;)V" } : Jvm.MethodName)) ∈ lw_G := lw_mem 168 (by decide +kernel) (by decide +kernel)
theorem g_169 : (Jvm.Cond.instanceMethod ({ cls := "java/lang/IndexOutOfBoundsException", name := "<init>", desc := "(Ljava/lang/String;)V" } : Jvm.MethodName)) ∈ lw_G := lw_mem 169 (by decide +kernel) (by decide +kernel)
theorem g_170 : (Jvm.Cond.code ({ cls := "java/lang/IndexOutOfBoundsException", name := "<init>", desc := "(Ljava/lang/String;)V" } : Jvm.MethodName) prog_10_method_2_code (2 : Nat) (Option.none : Option Jvm.ClassFile.FieldType)) ∈ lw_G := lw_mem 170 (by decide +kernel) (by decide +kernel)
theorem g_171 : (Jvm.Cond.methodLink "java/lang/IndexOutOfBoundsException" (7 : Nat) ({ cls := "java/lang/RuntimeException", name := "<init>", desc := "(Ljava/lang/String;)V" } : Jvm.MethodName)) ∈ lw_G := lw_mem 171 (by decide +kernel) (by decide +kernel)
theorem g_172 : (Jvm.Cond.instanceMethod ({ cls := "java/lang/RuntimeException", name := "<init>", desc := "(Ljava/lang/String;)V" } : Jvm.MethodName)) ∈ lw_G := lw_mem 172 (by decide +kernel) (by decide +kernel)
theorem g_173 : (Jvm.Cond.code ({ cls := "java/lang/RuntimeException", name := "<init>", desc := "(Ljava/lang/String;)V" } : Jvm.MethodName) prog_12_method_2_code (2 : Nat) (Option.none : Option Jvm.ClassFile.FieldType)) ∈ lw_G := lw_mem 173 (by decide +kernel) (by decide +kernel)
theorem g_174 : (Jvm.Cond.methodLink "java/lang/RuntimeException" (7 : Nat) ({ cls := "java/lang/Exception", name := "<init>", desc := "(Ljava/lang/String;)V" } : Jvm.MethodName)) ∈ lw_G := lw_mem 174 (by decide +kernel) (by decide +kernel)
theorem g_175 : (Jvm.Cond.instanceMethod ({ cls := "java/lang/Exception", name := "<init>", desc := "(Ljava/lang/String;)V" } : Jvm.MethodName)) ∈ lw_G := lw_mem 175 (by decide +kernel) (by decide +kernel)
theorem g_176 : (Jvm.Cond.code ({ cls := "java/lang/Exception", name := "<init>", desc := "(Ljava/lang/String;)V" } : Jvm.MethodName) prog_7_method_2_code (2 : Nat) (Option.none : Option Jvm.ClassFile.FieldType)) ∈ lw_G := lw_mem 176 (by decide +kernel) (by decide +kernel)
theorem g_177 : (Jvm.Cond.methodLink "java/lang/Exception" (7 : Nat) ({ cls := "java/lang/Throwable", name := "<init>", desc := "(Ljava/lang/String;)V" } : Jvm.MethodName)) ∈ lw_G := lw_mem 177 (by decide +kernel) (by decide +kernel)
theorem g_178 : (Jvm.Cond.instanceMethod ({ cls := "java/lang/Throwable", name := "<init>", desc := "(Ljava/lang/String;)V" } : Jvm.MethodName)) ∈ lw_G := lw_mem 178 (by decide +kernel) (by decide +kernel)
theorem g_179 : (Jvm.Cond.code ({ cls := "java/lang/Throwable", name := "<init>", desc := "(Ljava/lang/String;)V" } : Jvm.MethodName) prog_14_method_2_code (2 : Nat) (Option.none : Option Jvm.ClassFile.FieldType)) ∈ lw_G := lw_mem 179 (by decide +kernel) (by decide +kernel)
theorem g_180 : (Jvm.Cond.fieldLink "java/lang/Throwable" (198 : Nat) "java/lang/Throwable" "backtrace" "Ljava/lang/Object;") ∈ lw_G := lw_mem 180 (by decide +kernel) (by decide +kernel)
theorem g_181 : (Jvm.Cond.fieldLink "java/lang/Throwable" (31 : Nat) "java/lang/Throwable" "detailMessage" "Ljava/lang/String;") ∈ lw_G := lw_mem 181 (by decide +kernel) (by decide +kernel)
theorem g_182 : (Jvm.Cond.fieldLink "java/lang/Throwable" (7 : Nat) "java/lang/Throwable" "cause" "Ljava/lang/Throwable;") ∈ lw_G := lw_mem 182 (by decide +kernel) (by decide +kernel)
theorem g_183 : (Jvm.Cond.fieldLink "java/lang/Throwable" (17 : Nat) "java/lang/Throwable" "stackTrace" "[Ljava/lang/StackTraceElement;") ∈ lw_G := lw_mem 183 (by decide +kernel) (by decide +kernel)
theorem g_184 : (Jvm.Cond.fieldLink "java/lang/Throwable" (24 : Nat) "java/lang/Throwable" "suppressedExceptions" "Ljava/util/List;") ∈ lw_G := lw_mem 184 (by decide +kernel) (by decide +kernel)
theorem g_189 : (Jvm.Cond.lays "java/lang/IndexOutOfBoundsException" "java/lang/Throwable" "depth" "I") ∈ lw_G := lw_mem 189 (by decide +kernel) (by decide +kernel)
theorem g_193 : (Jvm.Cond.arrayClass Jvm.ClassFile.FieldType.byte) ∈ lw_G := lw_mem 193 (by decide +kernel) (by decide +kernel)
theorem g_194 : (Jvm.Cond.classLink "ToldRows" (42 : Nat) "java/lang/IllegalStateException") ∈ lw_G := lw_mem 194 (by decide +kernel) (by decide +kernel)
theorem g_195 : (Jvm.Cond.instantiable "java/lang/IllegalStateException" (6 : Nat)) ∈ lw_G := lw_mem 195 (by decide +kernel) (by decide +kernel)
theorem g_197 : (Jvm.Cond.selects "java/lang/IllegalStateException" ({ cls := "java/lang/Throwable", name := "fillInStackTrace", desc := "(I)Ljava/lang/Throwable;" } : Jvm.MethodName) ({ cls := "java/lang/Throwable", name := "fillInStackTrace", desc := "(I)Ljava/lang/Throwable;" } : Jvm.MethodName)) ∈ lw_G := lw_mem 197 (by decide +kernel) (by decide +kernel)
theorem g_198 : (Jvm.Cond.lays "java/lang/IllegalStateException" "java/lang/Throwable" "cause" "Ljava/lang/Throwable;") ∈ lw_G := lw_mem 198 (by decide +kernel) (by decide +kernel)
theorem g_199 : (Jvm.Cond.lays "java/lang/IllegalStateException" "java/lang/Throwable" "stackTrace" "[Ljava/lang/StackTraceElement;") ∈ lw_G := lw_mem 199 (by decide +kernel) (by decide +kernel)
theorem g_200 : (Jvm.Cond.lays "java/lang/IllegalStateException" "java/lang/Throwable" "suppressedExceptions" "Ljava/util/List;") ∈ lw_G := lw_mem 200 (by decide +kernel) (by decide +kernel)
theorem g_201 : (Jvm.Cond.lays "java/lang/IllegalStateException" "java/lang/Throwable" "detailMessage" "Ljava/lang/String;") ∈ lw_G := lw_mem 201 (by decide +kernel) (by decide +kernel)
theorem g_202 : (Jvm.Cond.lays "java/lang/IllegalStateException" "java/lang/Throwable" "backtrace" "Ljava/lang/Object;") ∈ lw_G := lw_mem 202 (by decide +kernel) (by decide +kernel)
theorem g_204 : (Jvm.Cond.methodLink "ToldRows" (46 : Nat) ({ cls := "java/lang/IllegalStateException", name := "<init>", desc := "(Ljava/lang/String;)V" } : Jvm.MethodName)) ∈ lw_G := lw_mem 204 (by decide +kernel) (by decide +kernel)
theorem g_205 : (Jvm.Cond.instanceMethod ({ cls := "java/lang/IllegalStateException", name := "<init>", desc := "(Ljava/lang/String;)V" } : Jvm.MethodName)) ∈ lw_G := lw_mem 205 (by decide +kernel) (by decide +kernel)
theorem g_206 : (Jvm.Cond.code ({ cls := "java/lang/IllegalStateException", name := "<init>", desc := "(Ljava/lang/String;)V" } : Jvm.MethodName) prog_9_method_2_code (2 : Nat) (Option.none : Option Jvm.ClassFile.FieldType)) ∈ lw_G := lw_mem 206 (by decide +kernel) (by decide +kernel)
theorem g_207 : (Jvm.Cond.methodLink "java/lang/IllegalStateException" (7 : Nat) ({ cls := "java/lang/RuntimeException", name := "<init>", desc := "(Ljava/lang/String;)V" } : Jvm.MethodName)) ∈ lw_G := lw_mem 207 (by decide +kernel) (by decide +kernel)
theorem g_208 : (Jvm.Cond.lays "java/lang/IllegalStateException" "java/lang/Throwable" "depth" "I") ∈ lw_G := lw_mem 208 (by decide +kernel) (by decide +kernel)
theorem g_210 : (Jvm.Cond.methodLink "ToldRows" (49 : Nat) ({ cls := "ToldRows", name := "needTime", desc := "(I)V" } : Jvm.MethodName)) ∈ lw_G := lw_mem 210 (by decide +kernel) (by decide +kernel)
theorem g_211 : (Jvm.Cond.static ({ cls := "ToldRows", name := "needTime", desc := "(I)V" } : Jvm.MethodName)) ∈ lw_G := lw_mem 211 (by decide +kernel) (by decide +kernel)
theorem g_212 : (Jvm.Cond.code ({ cls := "ToldRows", name := "needTime", desc := "(I)V" } : Jvm.MethodName) prog_1_method_18_code (1 : Nat) (Option.none : Option Jvm.ClassFile.FieldType)) ∈ lw_G := lw_mem 212 (by decide +kernel) (by decide +kernel)
theorem g_213 : (Jvm.Cond.constant "ToldRows" (196 : Nat) (1000000 : Int32)) ∈ lw_G := lw_mem 213 (by decide +kernel) (by decide +kernel)
theorem g_214 : (Jvm.Cond.classLink "ToldRows" (56 : Nat) "java/lang/IllegalArgumentException") ∈ lw_G := lw_mem 214 (by decide +kernel) (by decide +kernel)
theorem g_215 : (Jvm.Cond.instantiable "java/lang/IllegalArgumentException" (6 : Nat)) ∈ lw_G := lw_mem 215 (by decide +kernel) (by decide +kernel)
theorem g_217 : (Jvm.Cond.selects "java/lang/IllegalArgumentException" ({ cls := "java/lang/Throwable", name := "fillInStackTrace", desc := "(I)Ljava/lang/Throwable;" } : Jvm.MethodName) ({ cls := "java/lang/Throwable", name := "fillInStackTrace", desc := "(I)Ljava/lang/Throwable;" } : Jvm.MethodName)) ∈ lw_G := lw_mem 217 (by decide +kernel) (by decide +kernel)
theorem g_218 : (Jvm.Cond.lays "java/lang/IllegalArgumentException" "java/lang/Throwable" "cause" "Ljava/lang/Throwable;") ∈ lw_G := lw_mem 218 (by decide +kernel) (by decide +kernel)
theorem g_219 : (Jvm.Cond.lays "java/lang/IllegalArgumentException" "java/lang/Throwable" "stackTrace" "[Ljava/lang/StackTraceElement;") ∈ lw_G := lw_mem 219 (by decide +kernel) (by decide +kernel)
theorem g_220 : (Jvm.Cond.lays "java/lang/IllegalArgumentException" "java/lang/Throwable" "suppressedExceptions" "Ljava/util/List;") ∈ lw_G := lw_mem 220 (by decide +kernel) (by decide +kernel)
theorem g_221 : (Jvm.Cond.lays "java/lang/IllegalArgumentException" "java/lang/Throwable" "detailMessage" "Ljava/lang/String;") ∈ lw_G := lw_mem 221 (by decide +kernel) (by decide +kernel)
theorem g_222 : (Jvm.Cond.lays "java/lang/IllegalArgumentException" "java/lang/Throwable" "backtrace" "Ljava/lang/Object;") ∈ lw_G := lw_mem 222 (by decide +kernel) (by decide +kernel)
theorem g_224 : (Jvm.Cond.methodLink "ToldRows" (60 : Nat) ({ cls := "java/lang/IllegalArgumentException", name := "<init>", desc := "(Ljava/lang/String;)V" } : Jvm.MethodName)) ∈ lw_G := lw_mem 224 (by decide +kernel) (by decide +kernel)
theorem g_225 : (Jvm.Cond.instanceMethod ({ cls := "java/lang/IllegalArgumentException", name := "<init>", desc := "(Ljava/lang/String;)V" } : Jvm.MethodName)) ∈ lw_G := lw_mem 225 (by decide +kernel) (by decide +kernel)
theorem g_226 : (Jvm.Cond.code ({ cls := "java/lang/IllegalArgumentException", name := "<init>", desc := "(Ljava/lang/String;)V" } : Jvm.MethodName) prog_8_method_2_code (2 : Nat) (Option.none : Option Jvm.ClassFile.FieldType)) ∈ lw_G := lw_mem 226 (by decide +kernel) (by decide +kernel)
theorem g_227 : (Jvm.Cond.methodLink "java/lang/IllegalArgumentException" (7 : Nat) ({ cls := "java/lang/RuntimeException", name := "<init>", desc := "(Ljava/lang/String;)V" } : Jvm.MethodName)) ∈ lw_G := lw_mem 227 (by decide +kernel) (by decide +kernel)
theorem g_228 : (Jvm.Cond.lays "java/lang/IllegalArgumentException" "java/lang/Throwable" "depth" "I") ∈ lw_G := lw_mem 228 (by decide +kernel) (by decide +kernel)
theorem g_230 : (Jvm.Cond.methodLink "ToldRows" (52 : Nat) ({ cls := "ToldRows$Teller", name := "canFollow", desc := "(II)Z" } : Jvm.MethodName)) ∈ lw_G := lw_mem 230 (by decide +kernel) (by decide +kernel)
theorem g_231 : (Jvm.Cond.instanceMethod ({ cls := "ToldRows$Teller", name := "canFollow", desc := "(II)Z" } : Jvm.MethodName)) ∈ lw_G := lw_mem 231 (by decide +kernel) (by decide +kernel)
theorem g_232 : (Jvm.Cond.selects "ToldRows$Teller" ({ cls := "ToldRows$Teller", name := "canFollow", desc := "(II)Z" } : Jvm.MethodName) ({ cls := "ToldRows$Teller", name := "canFollow", desc := "(II)Z" } : Jvm.MethodName)) ∈ lw_G := lw_mem 232 (by decide +kernel) (by decide +kernel)
theorem g_233 : (Jvm.Cond.code ({ cls := "ToldRows$Teller", name := "canFollow", desc := "(II)Z" } : Jvm.MethodName) prog_3_method_2_code (3 : Nat) (Option.some Jvm.ClassFile.FieldType.boolean)) ∈ lw_G := lw_mem 233 (by decide +kernel) (by decide +kernel)
theorem g_235 : (Jvm.Cond.methodLink "ToldRows" (61 : Nat) ({ cls := "ToldRows$Teller", name := "addMark", desc := "(II)V" } : Jvm.MethodName)) ∈ lw_G := lw_mem 235 (by decide +kernel) (by decide +kernel)
theorem g_236 : (Jvm.Cond.instanceMethod ({ cls := "ToldRows$Teller", name := "addMark", desc := "(II)V" } : Jvm.MethodName)) ∈ lw_G := lw_mem 236 (by decide +kernel) (by decide +kernel)
theorem g_237 : (Jvm.Cond.selects "ToldRows$Teller" ({ cls := "ToldRows$Teller", name := "addMark", desc := "(II)V" } : Jvm.MethodName) ({ cls := "ToldRows$Teller", name := "addMark", desc := "(II)V" } : Jvm.MethodName)) ∈ lw_G := lw_mem 237 (by decide +kernel) (by decide +kernel)
theorem g_238 : (Jvm.Cond.code ({ cls := "ToldRows$Teller", name := "addMark", desc := "(II)V" } : Jvm.MethodName) prog_3_method_3_code (3 : Nat) (Option.none : Option Jvm.ClassFile.FieldType)) ∈ lw_G := lw_mem 238 (by decide +kernel) (by decide +kernel)
theorem g_239 : (Jvm.Cond.methodLink "ToldRowsLaw" (76 : Nat) ({ cls := "ToldRowsLaw", name := "real", desc := "(LToldRows;II[J)I" } : Jvm.MethodName)) ∈ lw_G := lw_mem 239 (by decide +kernel) (by decide +kernel)
theorem g_240 : (Jvm.Cond.static ({ cls := "ToldRowsLaw", name := "real", desc := "(LToldRows;II[J)I" } : Jvm.MethodName)) ∈ lw_G := lw_mem 240 (by decide +kernel) (by decide +kernel)
theorem g_241 : (Jvm.Cond.codeWith ({ cls := "ToldRowsLaw", name := "real", desc := "(LToldRows;II[J)I" } : Jvm.MethodName) method_4_code (5 : Nat) (Option.some Jvm.ClassFile.FieldType.int) [((0 : Nat), (10 : Nat), (13 : Nat), (13 : Nat)), ((0 : Nat), (10 : Nat), (17 : Nat), (17 : Nat))]) ∈ lw_G := lw_mem 241 (by decide +kernel) (by decide +kernel)
theorem g_242 : (Jvm.Cond.methodLink "ToldRowsLaw" (19 : Nat) ({ cls := "ToldRows", name := "real", desc := "(II)I" } : Jvm.MethodName)) ∈ lw_G := lw_mem 242 (by decide +kernel) (by decide +kernel)
theorem g_243 : (Jvm.Cond.instanceMethod ({ cls := "ToldRows", name := "real", desc := "(II)I" } : Jvm.MethodName)) ∈ lw_G := lw_mem 243 (by decide +kernel) (by decide +kernel)
theorem g_244 : (Jvm.Cond.selects "ToldRows" ({ cls := "ToldRows", name := "real", desc := "(II)I" } : Jvm.MethodName) ({ cls := "ToldRows", name := "real", desc := "(II)I" } : Jvm.MethodName)) ∈ lw_G := lw_mem 244 (by decide +kernel) (by decide +kernel)
theorem g_245 : (Jvm.Cond.code ({ cls := "ToldRows", name := "real", desc := "(II)I" } : Jvm.MethodName) prog_1_method_3_code (3 : Nat) (Option.some Jvm.ClassFile.FieldType.int)) ∈ lw_G := lw_mem 245 (by decide +kernel) (by decide +kernel)
theorem g_246 : (Jvm.Cond.methodLink "ToldRows" (65 : Nat) ({ cls := "ToldRows$Teller", name := "realTime", desc := "(I)I" } : Jvm.MethodName)) ∈ lw_G := lw_mem 246 (by decide +kernel) (by decide +kernel)
theorem g_247 : (Jvm.Cond.instanceMethod ({ cls := "ToldRows$Teller", name := "realTime", desc := "(I)I" } : Jvm.MethodName)) ∈ lw_G := lw_mem 247 (by decide +kernel) (by decide +kernel)
theorem g_248 : (Jvm.Cond.selects "ToldRows$Teller" ({ cls := "ToldRows$Teller", name := "realTime", desc := "(I)I" } : Jvm.MethodName) ({ cls := "ToldRows$Teller", name := "realTime", desc := "(I)I" } : Jvm.MethodName)) ∈ lw_G := lw_mem 248 (by decide +kernel) (by decide +kernel)
theorem g_249 : (Jvm.Cond.code ({ cls := "ToldRows$Teller", name := "realTime", desc := "(I)I" } : Jvm.MethodName) prog_3_method_4_code (4 : Nat) (Option.some Jvm.ClassFile.FieldType.int)) ∈ lw_G := lw_mem 249 (by decide +kernel) (by decide +kernel)
theorem g_250 : (Jvm.Cond.methodLink "ToldRows$Teller" (22 : Nat) ({ cls := "ToldRows$Teller", name := "marksUpTo", desc := "(I)I" } : Jvm.MethodName)) ∈ lw_G := lw_mem 250 (by decide +kernel) (by decide +kernel)
theorem g_251 : (Jvm.Cond.instanceMethod ({ cls := "ToldRows$Teller", name := "marksUpTo", desc := "(I)I" } : Jvm.MethodName)) ∈ lw_G := lw_mem 251 (by decide +kernel) (by decide +kernel)
theorem g_252 : (Jvm.Cond.selects "ToldRows$Teller" ({ cls := "ToldRows$Teller", name := "marksUpTo", desc := "(I)I" } : Jvm.MethodName) ({ cls := "ToldRows$Teller", name := "marksUpTo", desc := "(I)I" } : Jvm.MethodName)) ∈ lw_G := lw_mem 252 (by decide +kernel) (by decide +kernel)
theorem g_253 : (Jvm.Cond.code ({ cls := "ToldRows$Teller", name := "marksUpTo", desc := "(I)I" } : Jvm.MethodName) prog_3_method_5_code (3 : Nat) (Option.some Jvm.ClassFile.FieldType.int)) ∈ lw_G := lw_mem 253 (by decide +kernel) (by decide +kernel)
theorem g_254 : (Jvm.Cond.methodLink "ToldRows$Teller" (26 : Nat) ({ cls := "ToldRows$Teller", name := "realBetween", desc := "(II)I" } : Jvm.MethodName)) ∈ lw_G := lw_mem 254 (by decide +kernel) (by decide +kernel)
theorem g_255 : (Jvm.Cond.instanceMethod ({ cls := "ToldRows$Teller", name := "realBetween", desc := "(II)I" } : Jvm.MethodName)) ∈ lw_G := lw_mem 255 (by decide +kernel) (by decide +kernel)
theorem g_256 : (Jvm.Cond.selects "ToldRows$Teller" ({ cls := "ToldRows$Teller", name := "realBetween", desc := "(II)I" } : Jvm.MethodName) ({ cls := "ToldRows$Teller", name := "realBetween", desc := "(II)I" } : Jvm.MethodName)) ∈ lw_G := lw_mem 256 (by decide +kernel) (by decide +kernel)
theorem g_257 : (Jvm.Cond.code ({ cls := "ToldRows$Teller", name := "realBetween", desc := "(II)I" } : Jvm.MethodName) prog_3_method_6_code (6 : Nat) (Option.some Jvm.ClassFile.FieldType.int)) ∈ lw_G := lw_mem 257 (by decide +kernel) (by decide +kernel)
theorem g_258 : (Jvm.Cond.methodLink "ToldRowsLaw" (82 : Nat) ({ cls := "ToldRowsLaw", name := "tell", desc := "(LToldRows;IIJI[J)I" } : Jvm.MethodName)) ∈ lw_G := lw_mem 258 (by decide +kernel) (by decide +kernel)
theorem g_259 : (Jvm.Cond.static ({ cls := "ToldRowsLaw", name := "tell", desc := "(LToldRows;IIJI[J)I" } : Jvm.MethodName)) ∈ lw_G := lw_mem 259 (by decide +kernel) (by decide +kernel)
theorem g_260 : (Jvm.Cond.codeWith ({ cls := "ToldRowsLaw", name := "tell", desc := "(LToldRows;IIJI[J)I" } : Jvm.MethodName) method_5_code (8 : Nat) (Option.some Jvm.ClassFile.FieldType.int) [((0 : Nat), (14 : Nat), (17 : Nat), (13 : Nat)), ((0 : Nat), (14 : Nat), (21 : Nat), (17 : Nat)), ((0 : Nat), (14 : Nat), (25 : Nat), (27 : Nat))]) ∈ lw_G := lw_mem 260 (by decide +kernel) (by decide +kernel)
theorem g_261 : (Jvm.Cond.classLink "ToldRowsLaw" (27 : Nat) "java/lang/UnsupportedOperationException") ∈ lw_G := lw_mem 261 (by decide +kernel) (by decide +kernel)
theorem g_262 : (Jvm.Cond.methodLink "ToldRowsLaw" (23 : Nat) ({ cls := "ToldRows", name := "tell", desc := "(IIJI)I" } : Jvm.MethodName)) ∈ lw_G := lw_mem 262 (by decide +kernel) (by decide +kernel)
theorem g_263 : (Jvm.Cond.instanceMethod ({ cls := "ToldRows", name := "tell", desc := "(IIJI)I" } : Jvm.MethodName)) ∈ lw_G := lw_mem 263 (by decide +kernel) (by decide +kernel)
theorem g_264 : (Jvm.Cond.selects "ToldRows" ({ cls := "ToldRows", name := "tell", desc := "(IIJI)I" } : Jvm.MethodName) ({ cls := "ToldRows", name := "tell", desc := "(IIJI)I" } : Jvm.MethodName)) ∈ lw_G := lw_mem 264 (by decide +kernel) (by decide +kernel)
theorem g_265 : (Jvm.Cond.code ({ cls := "ToldRows", name := "tell", desc := "(IIJI)I" } : Jvm.MethodName) prog_1_method_4_code (11 : Nat) (Option.some Jvm.ClassFile.FieldType.int)) ∈ lw_G := lw_mem 265 (by decide +kernel) (by decide +kernel)
theorem g_266 : (Jvm.Cond.methodLink "ToldRows" (69 : Nat) ({ cls := "ToldRows", name := "needDesk", desc := "(I)V" } : Jvm.MethodName)) ∈ lw_G := lw_mem 266 (by decide +kernel) (by decide +kernel)
theorem g_267 : (Jvm.Cond.static ({ cls := "ToldRows", name := "needDesk", desc := "(I)V" } : Jvm.MethodName)) ∈ lw_G := lw_mem 267 (by decide +kernel) (by decide +kernel)
theorem g_268 : (Jvm.Cond.code ({ cls := "ToldRows", name := "needDesk", desc := "(I)V" } : Jvm.MethodName) prog_1_method_16_code (1 : Nat) (Option.none : Option Jvm.ClassFile.FieldType)) ∈ lw_G := lw_mem 268 (by decide +kernel) (by decide +kernel)
theorem g_270 : (Jvm.Cond.methodLink "ToldRows" (72 : Nat) ({ cls := "ToldRows", name := "needTold", desc := "(J)V" } : Jvm.MethodName)) ∈ lw_G := lw_mem 270 (by decide +kernel) (by decide +kernel)
theorem g_271 : (Jvm.Cond.static ({ cls := "ToldRows", name := "needTold", desc := "(J)V" } : Jvm.MethodName)) ∈ lw_G := lw_mem 271 (by decide +kernel) (by decide +kernel)
theorem g_272 : (Jvm.Cond.code ({ cls := "ToldRows", name := "needTold", desc := "(J)V" } : Jvm.MethodName) prog_1_method_19_code (2 : Nat) (Option.none : Option Jvm.ClassFile.FieldType)) ∈ lw_G := lw_mem 272 (by decide +kernel) (by decide +kernel)
theorem g_274 : (Jvm.Cond.methodLink "ToldRows" (201 : Nat) ({ cls := "ToldRows", name := "timeIn", desc := "(I)I" } : Jvm.MethodName)) ∈ lw_G := lw_mem 274 (by decide +kernel) (by decide +kernel)
theorem g_275 : (Jvm.Cond.static ({ cls := "ToldRows", name := "timeIn", desc := "(I)I" } : Jvm.MethodName)) ∈ lw_G := lw_mem 275 (by decide +kernel) (by decide +kernel)
theorem g_276 : (Jvm.Cond.code ({ cls := "ToldRows", name := "timeIn", desc := "(I)I" } : Jvm.MethodName) prog_1_method_22_code (1 : Nat) (Option.some Jvm.ClassFile.FieldType.int)) ∈ lw_G := lw_mem 276 (by decide +kernel) (by decide +kernel)
theorem g_277 : (Jvm.Cond.methodLink "ToldRows" (206 : Nat) ({ cls := "ToldRows", name := "lowBits", desc := "(II)I" } : Jvm.MethodName)) ∈ lw_G := lw_mem 277 (by decide +kernel) (by decide +kernel)
theorem g_278 : (Jvm.Cond.static ({ cls := "ToldRows", name := "lowBits", desc := "(II)I" } : Jvm.MethodName)) ∈ lw_G := lw_mem 278 (by decide +kernel) (by decide +kernel)
theorem g_279 : (Jvm.Cond.code ({ cls := "ToldRows", name := "lowBits", desc := "(II)I" } : Jvm.MethodName) prog_1_method_21_code (2 : Nat) (Option.some Jvm.ClassFile.FieldType.int)) ∈ lw_G := lw_mem 279 (by decide +kernel) (by decide +kernel)
theorem g_280 : (Jvm.Cond.methodLink "ToldRows" (79 : Nat) ({ cls := "ToldRows", name := "numberIn", desc := "(I)I" } : Jvm.MethodName)) ∈ lw_G := lw_mem 280 (by decide +kernel) (by decide +kernel)
theorem g_281 : (Jvm.Cond.static ({ cls := "ToldRows", name := "numberIn", desc := "(I)I" } : Jvm.MethodName)) ∈ lw_G := lw_mem 281 (by decide +kernel) (by decide +kernel)
theorem g_282 : (Jvm.Cond.code ({ cls := "ToldRows", name := "numberIn", desc := "(I)I" } : Jvm.MethodName) prog_1_method_24_code (1 : Nat) (Option.some Jvm.ClassFile.FieldType.int)) ∈ lw_G := lw_mem 282 (by decide +kernel) (by decide +kernel)
theorem g_284 : (Jvm.Cond.methodLink "ToldRows" (82 : Nat) ({ cls := "ToldRows", name := "nameOf", desc := "(III)I" } : Jvm.MethodName)) ∈ lw_G := lw_mem 284 (by decide +kernel) (by decide +kernel)
theorem g_285 : (Jvm.Cond.static ({ cls := "ToldRows", name := "nameOf", desc := "(III)I" } : Jvm.MethodName)) ∈ lw_G := lw_mem 285 (by decide +kernel) (by decide +kernel)
theorem g_286 : (Jvm.Cond.code ({ cls := "ToldRows", name := "nameOf", desc := "(III)I" } : Jvm.MethodName) prog_1_method_25_code (3 : Nat) (Option.some Jvm.ClassFile.FieldType.int)) ∈ lw_G := lw_mem 286 (by decide +kernel) (by decide +kernel)
theorem g_287 : (Jvm.Cond.methodLink "ToldRows" (86 : Nat) ({ cls := "ToldRows$Tellings", name := "find", desc := "(III)I" } : Jvm.MethodName)) ∈ lw_G := lw_mem 287 (by decide +kernel) (by decide +kernel)
theorem g_288 : (Jvm.Cond.instanceMethod ({ cls := "ToldRows$Tellings", name := "find", desc := "(III)I" } : Jvm.MethodName)) ∈ lw_G := lw_mem 288 (by decide +kernel) (by decide +kernel)
theorem g_289 : (Jvm.Cond.selects "ToldRows$Tellings" ({ cls := "ToldRows$Tellings", name := "find", desc := "(III)I" } : Jvm.MethodName) ({ cls := "ToldRows$Tellings", name := "find", desc := "(III)I" } : Jvm.MethodName)) ∈ lw_G := lw_mem 289 (by decide +kernel) (by decide +kernel)
theorem g_290 : (Jvm.Cond.code ({ cls := "ToldRows$Tellings", name := "find", desc := "(III)I" } : Jvm.MethodName) prog_4_method_2_code (5 : Nat) (Option.some Jvm.ClassFile.FieldType.int)) ∈ lw_G := lw_mem 290 (by decide +kernel) (by decide +kernel)
theorem g_291 : (Jvm.Cond.classLink "ToldRows" (92 : Nat) "java/lang/UnsupportedOperationException") ∈ lw_G := lw_mem 291 (by decide +kernel) (by decide +kernel)
theorem g_292 : (Jvm.Cond.instantiable "java/lang/UnsupportedOperationException" (6 : Nat)) ∈ lw_G := lw_mem 292 (by decide +kernel) (by decide +kernel)
theorem g_294 : (Jvm.Cond.selects "java/lang/UnsupportedOperationException" ({ cls := "java/lang/Throwable", name := "fillInStackTrace", desc := "(I)Ljava/lang/Throwable;" } : Jvm.MethodName) ({ cls := "java/lang/Throwable", name := "fillInStackTrace", desc := "(I)Ljava/lang/Throwable;" } : Jvm.MethodName)) ∈ lw_G := lw_mem 294 (by decide +kernel) (by decide +kernel)
theorem g_295 : (Jvm.Cond.lays "java/lang/UnsupportedOperationException" "java/lang/Throwable" "cause" "Ljava/lang/Throwable;") ∈ lw_G := lw_mem 295 (by decide +kernel) (by decide +kernel)
theorem g_296 : (Jvm.Cond.lays "java/lang/UnsupportedOperationException" "java/lang/Throwable" "stackTrace" "[Ljava/lang/StackTraceElement;") ∈ lw_G := lw_mem 296 (by decide +kernel) (by decide +kernel)
theorem g_297 : (Jvm.Cond.lays "java/lang/UnsupportedOperationException" "java/lang/Throwable" "suppressedExceptions" "Ljava/util/List;") ∈ lw_G := lw_mem 297 (by decide +kernel) (by decide +kernel)
theorem g_298 : (Jvm.Cond.lays "java/lang/UnsupportedOperationException" "java/lang/Throwable" "detailMessage" "Ljava/lang/String;") ∈ lw_G := lw_mem 298 (by decide +kernel) (by decide +kernel)
theorem g_299 : (Jvm.Cond.lays "java/lang/UnsupportedOperationException" "java/lang/Throwable" "backtrace" "Ljava/lang/Object;") ∈ lw_G := lw_mem 299 (by decide +kernel) (by decide +kernel)
theorem g_301 : (Jvm.Cond.methodLink "ToldRows" (96 : Nat) ({ cls := "java/lang/UnsupportedOperationException", name := "<init>", desc := "(Ljava/lang/String;)V" } : Jvm.MethodName)) ∈ lw_G := lw_mem 301 (by decide +kernel) (by decide +kernel)
theorem g_302 : (Jvm.Cond.instanceMethod ({ cls := "java/lang/UnsupportedOperationException", name := "<init>", desc := "(Ljava/lang/String;)V" } : Jvm.MethodName)) ∈ lw_G := lw_mem 302 (by decide +kernel) (by decide +kernel)
theorem g_303 : (Jvm.Cond.code ({ cls := "java/lang/UnsupportedOperationException", name := "<init>", desc := "(Ljava/lang/String;)V" } : Jvm.MethodName) prog_15_method_2_code (2 : Nat) (Option.none : Option Jvm.ClassFile.FieldType)) ∈ lw_G := lw_mem 303 (by decide +kernel) (by decide +kernel)
theorem g_304 : (Jvm.Cond.methodLink "java/lang/UnsupportedOperationException" (7 : Nat) ({ cls := "java/lang/RuntimeException", name := "<init>", desc := "(Ljava/lang/String;)V" } : Jvm.MethodName)) ∈ lw_G := lw_mem 304 (by decide +kernel) (by decide +kernel)
theorem g_305 : (Jvm.Cond.lays "java/lang/UnsupportedOperationException" "java/lang/Throwable" "depth" "I") ∈ lw_G := lw_mem 305 (by decide +kernel) (by decide +kernel)
theorem g_307 : (Jvm.Cond.methodLink "ToldRows" (97 : Nat) ({ cls := "ToldRows$Desk", name := "has", desc := "(I)Z" } : Jvm.MethodName)) ∈ lw_G := lw_mem 307 (by decide +kernel) (by decide +kernel)
theorem g_308 : (Jvm.Cond.instanceMethod ({ cls := "ToldRows$Desk", name := "has", desc := "(I)Z" } : Jvm.MethodName)) ∈ lw_G := lw_mem 308 (by decide +kernel) (by decide +kernel)
theorem g_309 : (Jvm.Cond.selects "ToldRows$Desk" ({ cls := "ToldRows$Desk", name := "has", desc := "(I)Z" } : Jvm.MethodName) ({ cls := "ToldRows$Desk", name := "has", desc := "(I)Z" } : Jvm.MethodName)) ∈ lw_G := lw_mem 309 (by decide +kernel) (by decide +kernel)
theorem g_310 : (Jvm.Cond.code ({ cls := "ToldRows$Desk", name := "has", desc := "(I)Z" } : Jvm.MethodName) prog_2_method_2_code (2 : Nat) (Option.some Jvm.ClassFile.FieldType.boolean)) ∈ lw_G := lw_mem 310 (by decide +kernel) (by decide +kernel)
theorem g_311 : (Jvm.Cond.methodLink "ToldRows" (101 : Nat) ({ cls := "ToldRows$Tellings", name := "add", desc := "(III)I" } : Jvm.MethodName)) ∈ lw_G := lw_mem 311 (by decide +kernel) (by decide +kernel)
theorem g_312 : (Jvm.Cond.instanceMethod ({ cls := "ToldRows$Tellings", name := "add", desc := "(III)I" } : Jvm.MethodName)) ∈ lw_G := lw_mem 312 (by decide +kernel) (by decide +kernel)
theorem g_313 : (Jvm.Cond.selects "ToldRows$Tellings" ({ cls := "ToldRows$Tellings", name := "add", desc := "(III)I" } : Jvm.MethodName) ({ cls := "ToldRows$Tellings", name := "add", desc := "(III)I" } : Jvm.MethodName)) ∈ lw_G := lw_mem 313 (by decide +kernel) (by decide +kernel)
theorem g_314 : (Jvm.Cond.code ({ cls := "ToldRows$Tellings", name := "add", desc := "(III)I" } : Jvm.MethodName) prog_4_method_4_code (5 : Nat) (Option.some Jvm.ClassFile.FieldType.int)) ∈ lw_G := lw_mem 314 (by decide +kernel) (by decide +kernel)
theorem g_315 : (Jvm.Cond.methodLink "ToldRows" (104 : Nat) ({ cls := "ToldRows", name := "hasRival", desc := "(LToldRows$Desk;I)Z" } : Jvm.MethodName)) ∈ lw_G := lw_mem 315 (by decide +kernel) (by decide +kernel)
theorem g_317 : (Jvm.Cond.instanceMethod ({ cls := "ToldRows", name := "hasRival", desc := "(LToldRows$Desk;I)Z" } : Jvm.MethodName)) ∈ lw_G := lw_mem 317 (by decide +kernel) (by decide +kernel)
theorem g_318 : (Jvm.Cond.code ({ cls := "ToldRows", name := "hasRival", desc := "(LToldRows$Desk;I)Z" } : Jvm.MethodName) prog_1_method_26_code (4 : Nat) (Option.some Jvm.ClassFile.FieldType.boolean)) ∈ lw_G := lw_mem 318 (by decide +kernel) (by decide +kernel)
theorem g_319 : (Jvm.Cond.methodLink "ToldRows" (209 : Nat) ({ cls := "ToldRows$Tellings", name := "areRivals", desc := "(II)Z" } : Jvm.MethodName)) ∈ lw_G := lw_mem 319 (by decide +kernel) (by decide +kernel)
theorem g_320 : (Jvm.Cond.instanceMethod ({ cls := "ToldRows$Tellings", name := "areRivals", desc := "(II)Z" } : Jvm.MethodName)) ∈ lw_G := lw_mem 320 (by decide +kernel) (by decide +kernel)
theorem g_321 : (Jvm.Cond.selects "ToldRows$Tellings" ({ cls := "ToldRows$Tellings", name := "areRivals", desc := "(II)Z" } : Jvm.MethodName) ({ cls := "ToldRows$Tellings", name := "areRivals", desc := "(II)Z" } : Jvm.MethodName)) ∈ lw_G := lw_mem 321 (by decide +kernel) (by decide +kernel)
theorem g_322 : (Jvm.Cond.code ({ cls := "ToldRows$Tellings", name := "areRivals", desc := "(II)Z" } : Jvm.MethodName) prog_4_method_6_code (3 : Nat) (Option.some Jvm.ClassFile.FieldType.boolean)) ∈ lw_G := lw_mem 322 (by decide +kernel) (by decide +kernel)
theorem g_323 : (Jvm.Cond.methodLink "ToldRows" (108 : Nat) ({ cls := "ToldRows$Desk", name := "take", desc := "(I)V" } : Jvm.MethodName)) ∈ lw_G := lw_mem 323 (by decide +kernel) (by decide +kernel)
theorem g_324 : (Jvm.Cond.instanceMethod ({ cls := "ToldRows$Desk", name := "take", desc := "(I)V" } : Jvm.MethodName)) ∈ lw_G := lw_mem 324 (by decide +kernel) (by decide +kernel)
theorem g_325 : (Jvm.Cond.selects "ToldRows$Desk" ({ cls := "ToldRows$Desk", name := "take", desc := "(I)V" } : Jvm.MethodName) ({ cls := "ToldRows$Desk", name := "take", desc := "(I)V" } : Jvm.MethodName)) ∈ lw_G := lw_mem 325 (by decide +kernel) (by decide +kernel)
theorem g_326 : (Jvm.Cond.code ({ cls := "ToldRows$Desk", name := "take", desc := "(I)V" } : Jvm.MethodName) prog_2_method_5_code (2 : Nat) (Option.none : Option Jvm.ClassFile.FieldType)) ∈ lw_G := lw_mem 326 (by decide +kernel) (by decide +kernel)
theorem g_327 : (Jvm.Cond.methodLink "ToldRowsLaw" (86 : Nat) ({ cls := "ToldRowsLaw", name := "restart", desc := "(LToldRows;I[J)I" } : Jvm.MethodName)) ∈ lw_G := lw_mem 327 (by decide +kernel) (by decide +kernel)
theorem g_328 : (Jvm.Cond.static ({ cls := "ToldRowsLaw", name := "restart", desc := "(LToldRows;I[J)I" } : Jvm.MethodName)) ∈ lw_G := lw_mem 328 (by decide +kernel) (by decide +kernel)
theorem g_329 : (Jvm.Cond.codeWith ({ cls := "ToldRowsLaw", name := "restart", desc := "(LToldRows;I[J)I" } : Jvm.MethodName) method_6_code (4 : Nat) (Option.some Jvm.ClassFile.FieldType.int) [((0 : Nat), (9 : Nat), (12 : Nat), (13 : Nat)), ((0 : Nat), (9 : Nat), (15 : Nat), (15 : Nat))]) ∈ lw_G := lw_mem 329 (by decide +kernel) (by decide +kernel)
theorem g_330 : (Jvm.Cond.methodLink "ToldRowsLaw" (29 : Nat) ({ cls := "ToldRows", name := "restart", desc := "(I)I" } : Jvm.MethodName)) ∈ lw_G := lw_mem 330 (by decide +kernel) (by decide +kernel)
theorem g_331 : (Jvm.Cond.instanceMethod ({ cls := "ToldRows", name := "restart", desc := "(I)I" } : Jvm.MethodName)) ∈ lw_G := lw_mem 331 (by decide +kernel) (by decide +kernel)
theorem g_332 : (Jvm.Cond.selects "ToldRows" ({ cls := "ToldRows", name := "restart", desc := "(I)I" } : Jvm.MethodName) ({ cls := "ToldRows", name := "restart", desc := "(I)I" } : Jvm.MethodName)) ∈ lw_G := lw_mem 332 (by decide +kernel) (by decide +kernel)
theorem g_333 : (Jvm.Cond.code ({ cls := "ToldRows", name := "restart", desc := "(I)I" } : Jvm.MethodName) prog_1_method_5_code (3 : Nat) (Option.some Jvm.ClassFile.FieldType.int)) ∈ lw_G := lw_mem 333 (by decide +kernel) (by decide +kernel)
theorem g_335 : (Jvm.Cond.methodLink "ToldRowsLaw" (90 : Nat) ({ cls := "ToldRowsLaw", name := "join", desc := "(LToldRows;II[J)I" } : Jvm.MethodName)) ∈ lw_G := lw_mem 335 (by decide +kernel) (by decide +kernel)
theorem g_336 : (Jvm.Cond.static ({ cls := "ToldRowsLaw", name := "join", desc := "(LToldRows;II[J)I" } : Jvm.MethodName)) ∈ lw_G := lw_mem 336 (by decide +kernel) (by decide +kernel)
theorem g_337 : (Jvm.Cond.codeWith ({ cls := "ToldRowsLaw", name := "join", desc := "(LToldRows;II[J)I" } : Jvm.MethodName) method_7_code (5 : Nat) (Option.some Jvm.ClassFile.FieldType.int) [((0 : Nat), (10 : Nat), (13 : Nat), (13 : Nat))]) ∈ lw_G := lw_mem 337 (by decide +kernel) (by decide +kernel)
theorem g_338 : (Jvm.Cond.methodLink "ToldRowsLaw" (33 : Nat) ({ cls := "ToldRows", name := "join", desc := "(II)I" } : Jvm.MethodName)) ∈ lw_G := lw_mem 338 (by decide +kernel) (by decide +kernel)
theorem g_339 : (Jvm.Cond.instanceMethod ({ cls := "ToldRows", name := "join", desc := "(II)I" } : Jvm.MethodName)) ∈ lw_G := lw_mem 339 (by decide +kernel) (by decide +kernel)
theorem g_340 : (Jvm.Cond.selects "ToldRows" ({ cls := "ToldRows", name := "join", desc := "(II)I" } : Jvm.MethodName) ({ cls := "ToldRows", name := "join", desc := "(II)I" } : Jvm.MethodName)) ∈ lw_G := lw_mem 340 (by decide +kernel) (by decide +kernel)
theorem g_341 : (Jvm.Cond.code ({ cls := "ToldRows", name := "join", desc := "(II)I" } : Jvm.MethodName) prog_1_method_6_code (7 : Nat) (Option.some Jvm.ClassFile.FieldType.int)) ∈ lw_G := lw_mem 341 (by decide +kernel) (by decide +kernel)
theorem g_343 : (Jvm.Cond.methodLink "ToldRows" (118 : Nat) ({ cls := "ToldRows$Desk", name := "hasSeen", desc := "(I)Z" } : Jvm.MethodName)) ∈ lw_G := lw_mem 343 (by decide +kernel) (by decide +kernel)
theorem g_344 : (Jvm.Cond.instanceMethod ({ cls := "ToldRows$Desk", name := "hasSeen", desc := "(I)Z" } : Jvm.MethodName)) ∈ lw_G := lw_mem 344 (by decide +kernel) (by decide +kernel)
theorem g_345 : (Jvm.Cond.selects "ToldRows$Desk" ({ cls := "ToldRows$Desk", name := "hasSeen", desc := "(I)Z" } : Jvm.MethodName) ({ cls := "ToldRows$Desk", name := "hasSeen", desc := "(I)Z" } : Jvm.MethodName)) ∈ lw_G := lw_mem 345 (by decide +kernel) (by decide +kernel)
theorem g_346 : (Jvm.Cond.code ({ cls := "ToldRows$Desk", name := "hasSeen", desc := "(I)Z" } : Jvm.MethodName) prog_2_method_3_code (2 : Nat) (Option.some Jvm.ClassFile.FieldType.boolean)) ∈ lw_G := lw_mem 346 (by decide +kernel) (by decide +kernel)
theorem g_347 : (Jvm.Cond.methodLink "ToldRowsLaw" (93 : Nat) ({ cls := "ToldRowsLaw", name := "batch", desc := "(LToldRows;IZ[J)I" } : Jvm.MethodName)) ∈ lw_G := lw_mem 347 (by decide +kernel) (by decide +kernel)
theorem g_348 : (Jvm.Cond.static ({ cls := "ToldRowsLaw", name := "batch", desc := "(LToldRows;IZ[J)I" } : Jvm.MethodName)) ∈ lw_G := lw_mem 348 (by decide +kernel) (by decide +kernel)
theorem g_349 : (Jvm.Cond.codeWith ({ cls := "ToldRowsLaw", name := "batch", desc := "(LToldRows;IZ[J)I" } : Jvm.MethodName) method_8_code (5 : Nat) (Option.some Jvm.ClassFile.FieldType.int) [((0 : Nat), (10 : Nat), (13 : Nat), (13 : Nat)), ((0 : Nat), (10 : Nat), (17 : Nat), (15 : Nat))]) ∈ lw_G := lw_mem 349 (by decide +kernel) (by decide +kernel)
theorem g_350 : (Jvm.Cond.methodLink "ToldRowsLaw" (36 : Nat) ({ cls := "ToldRows", name := "batch", desc := "(IZ)I" } : Jvm.MethodName)) ∈ lw_G := lw_mem 350 (by decide +kernel) (by decide +kernel)
theorem g_351 : (Jvm.Cond.instanceMethod ({ cls := "ToldRows", name := "batch", desc := "(IZ)I" } : Jvm.MethodName)) ∈ lw_G := lw_mem 351 (by decide +kernel) (by decide +kernel)
theorem g_352 : (Jvm.Cond.selects "ToldRows" ({ cls := "ToldRows", name := "batch", desc := "(IZ)I" } : Jvm.MethodName) ({ cls := "ToldRows", name := "batch", desc := "(IZ)I" } : Jvm.MethodName)) ∈ lw_G := lw_mem 352 (by decide +kernel) (by decide +kernel)
theorem g_353 : (Jvm.Cond.code ({ cls := "ToldRows", name := "batch", desc := "(IZ)I" } : Jvm.MethodName) prog_1_method_7_code (4 : Nat) (Option.some Jvm.ClassFile.FieldType.int)) ∈ lw_G := lw_mem 353 (by decide +kernel) (by decide +kernel)
theorem g_355 : (Jvm.Cond.methodLink "ToldRows" (127 : Nat) ({ cls := "ToldRows$Desk", name := "endBatch", desc := "()V" } : Jvm.MethodName)) ∈ lw_G := lw_mem 355 (by decide +kernel) (by decide +kernel)
theorem g_356 : (Jvm.Cond.instanceMethod ({ cls := "ToldRows$Desk", name := "endBatch", desc := "()V" } : Jvm.MethodName)) ∈ lw_G := lw_mem 356 (by decide +kernel) (by decide +kernel)
theorem g_357 : (Jvm.Cond.selects "ToldRows$Desk" ({ cls := "ToldRows$Desk", name := "endBatch", desc := "()V" } : Jvm.MethodName) ({ cls := "ToldRows$Desk", name := "endBatch", desc := "()V" } : Jvm.MethodName)) ∈ lw_G := lw_mem 357 (by decide +kernel) (by decide +kernel)
theorem g_358 : (Jvm.Cond.code ({ cls := "ToldRows$Desk", name := "endBatch", desc := "()V" } : Jvm.MethodName) prog_2_method_6_code (2 : Nat) (Option.none : Option Jvm.ClassFile.FieldType)) ∈ lw_G := lw_mem 358 (by decide +kernel) (by decide +kernel)
theorem g_359 : (Jvm.Cond.methodLink "ToldRowsLaw" (97 : Nat) ({ cls := "ToldRowsLaw", name := "same", desc := "(LToldRows;II[J)I" } : Jvm.MethodName)) ∈ lw_G := lw_mem 359 (by decide +kernel) (by decide +kernel)
theorem g_360 : (Jvm.Cond.static ({ cls := "ToldRowsLaw", name := "same", desc := "(LToldRows;II[J)I" } : Jvm.MethodName)) ∈ lw_G := lw_mem 360 (by decide +kernel) (by decide +kernel)
theorem g_361 : (Jvm.Cond.codeWith ({ cls := "ToldRowsLaw", name := "same", desc := "(LToldRows;II[J)I" } : Jvm.MethodName) method_9_code (5 : Nat) (Option.some Jvm.ClassFile.FieldType.int) [((0 : Nat), (17 : Nat), (20 : Nat), (13 : Nat))]) ∈ lw_G := lw_mem 361 (by decide +kernel) (by decide +kernel)
theorem g_362 : (Jvm.Cond.methodLink "ToldRowsLaw" (40 : Nat) ({ cls := "ToldRows", name := "same", desc := "(II)Z" } : Jvm.MethodName)) ∈ lw_G := lw_mem 362 (by decide +kernel) (by decide +kernel)
theorem g_363 : (Jvm.Cond.instanceMethod ({ cls := "ToldRows", name := "same", desc := "(II)Z" } : Jvm.MethodName)) ∈ lw_G := lw_mem 363 (by decide +kernel) (by decide +kernel)
theorem g_364 : (Jvm.Cond.selects "ToldRows" ({ cls := "ToldRows", name := "same", desc := "(II)Z" } : Jvm.MethodName) ({ cls := "ToldRows", name := "same", desc := "(II)Z" } : Jvm.MethodName)) ∈ lw_G := lw_mem 364 (by decide +kernel) (by decide +kernel)
theorem g_365 : (Jvm.Cond.code ({ cls := "ToldRows", name := "same", desc := "(II)Z" } : Jvm.MethodName) prog_1_method_8_code (6 : Nat) (Option.some Jvm.ClassFile.FieldType.boolean)) ∈ lw_G := lw_mem 365 (by decide +kernel) (by decide +kernel)
theorem g_366 : (Jvm.Cond.methodLink "ToldRowsLaw" (100 : Nat) ({ cls := "ToldRowsLaw", name := "conflicts", desc := "(LToldRows;I[J)I" } : Jvm.MethodName)) ∈ lw_G := lw_mem 366 (by decide +kernel) (by decide +kernel)
theorem g_367 : (Jvm.Cond.static ({ cls := "ToldRowsLaw", name := "conflicts", desc := "(LToldRows;I[J)I" } : Jvm.MethodName)) ∈ lw_G := lw_mem 367 (by decide +kernel) (by decide +kernel)
theorem g_368 : (Jvm.Cond.codeWith ({ cls := "ToldRowsLaw", name := "conflicts", desc := "(LToldRows;I[J)I" } : Jvm.MethodName) method_10_code (4 : Nat) (Option.some Jvm.ClassFile.FieldType.int) [((0 : Nat), (9 : Nat), (12 : Nat), (13 : Nat))]) ∈ lw_G := lw_mem 368 (by decide +kernel) (by decide +kernel)
theorem g_369 : (Jvm.Cond.methodLink "ToldRowsLaw" (44 : Nat) ({ cls := "ToldRows", name := "conflicts", desc := "(I)I" } : Jvm.MethodName)) ∈ lw_G := lw_mem 369 (by decide +kernel) (by decide +kernel)
theorem g_370 : (Jvm.Cond.instanceMethod ({ cls := "ToldRows", name := "conflicts", desc := "(I)I" } : Jvm.MethodName)) ∈ lw_G := lw_mem 370 (by decide +kernel) (by decide +kernel)
theorem g_371 : (Jvm.Cond.selects "ToldRows" ({ cls := "ToldRows", name := "conflicts", desc := "(I)I" } : Jvm.MethodName) ({ cls := "ToldRows", name := "conflicts", desc := "(I)I" } : Jvm.MethodName)) ∈ lw_G := lw_mem 371 (by decide +kernel) (by decide +kernel)
theorem g_372 : (Jvm.Cond.code ({ cls := "ToldRows", name := "conflicts", desc := "(I)I" } : Jvm.MethodName) prog_1_method_9_code (5 : Nat) (Option.some Jvm.ClassFile.FieldType.int)) ∈ lw_G := lw_mem 372 (by decide +kernel) (by decide +kernel)
theorem g_373 : (Jvm.Cond.methodLink "ToldRows" (133 : Nat) ({ cls := "ToldRows", name := "beginsConflict", desc := "(LToldRows$Desk;I)Z" } : Jvm.MethodName)) ∈ lw_G := lw_mem 373 (by decide +kernel) (by decide +kernel)
theorem g_375 : (Jvm.Cond.instanceMethod ({ cls := "ToldRows", name := "beginsConflict", desc := "(LToldRows$Desk;I)Z" } : Jvm.MethodName)) ∈ lw_G := lw_mem 375 (by decide +kernel) (by decide +kernel)
theorem g_376 : (Jvm.Cond.code ({ cls := "ToldRows", name := "beginsConflict", desc := "(LToldRows$Desk;I)Z" } : Jvm.MethodName) prog_1_method_27_code (5 : Nat) (Option.some Jvm.ClassFile.FieldType.boolean)) ∈ lw_G := lw_mem 376 (by decide +kernel) (by decide +kernel)
theorem g_377 : (Jvm.Cond.methodLink "ToldRowsLaw" (103 : Nat) ({ cls := "ToldRowsLaw", name := "settle", desc := "(LToldRows;II[J)I" } : Jvm.MethodName)) ∈ lw_G := lw_mem 377 (by decide +kernel) (by decide +kernel)
theorem g_378 : (Jvm.Cond.static ({ cls := "ToldRowsLaw", name := "settle", desc := "(LToldRows;II[J)I" } : Jvm.MethodName)) ∈ lw_G := lw_mem 378 (by decide +kernel) (by decide +kernel)
theorem g_379 : (Jvm.Cond.codeWith ({ cls := "ToldRowsLaw", name := "settle", desc := "(LToldRows;II[J)I" } : Jvm.MethodName) method_11_code (5 : Nat) (Option.some Jvm.ClassFile.FieldType.int) [((0 : Nat), (10 : Nat), (13 : Nat), (13 : Nat))]) ∈ lw_G := lw_mem 379 (by decide +kernel) (by decide +kernel)
theorem g_380 : (Jvm.Cond.methodLink "ToldRowsLaw" (47 : Nat) ({ cls := "ToldRows", name := "settle", desc := "(II)I" } : Jvm.MethodName)) ∈ lw_G := lw_mem 380 (by decide +kernel) (by decide +kernel)
theorem g_381 : (Jvm.Cond.instanceMethod ({ cls := "ToldRows", name := "settle", desc := "(II)I" } : Jvm.MethodName)) ∈ lw_G := lw_mem 381 (by decide +kernel) (by decide +kernel)
theorem g_382 : (Jvm.Cond.selects "ToldRows" ({ cls := "ToldRows", name := "settle", desc := "(II)I" } : Jvm.MethodName) ({ cls := "ToldRows", name := "settle", desc := "(II)I" } : Jvm.MethodName)) ∈ lw_G := lw_mem 382 (by decide +kernel) (by decide +kernel)
theorem g_383 : (Jvm.Cond.code ({ cls := "ToldRows", name := "settle", desc := "(II)I" } : Jvm.MethodName) prog_1_method_10_code (4 : Nat) (Option.some Jvm.ClassFile.FieldType.int)) ∈ lw_G := lw_mem 383 (by decide +kernel) (by decide +kernel)
theorem g_384 : (Jvm.Cond.methodLink "ToldRows" (136 : Nat) ({ cls := "ToldRows", name := "needName", desc := "(I)V" } : Jvm.MethodName)) ∈ lw_G := lw_mem 384 (by decide +kernel) (by decide +kernel)
theorem g_385 : (Jvm.Cond.static ({ cls := "ToldRows", name := "needName", desc := "(I)V" } : Jvm.MethodName)) ∈ lw_G := lw_mem 385 (by decide +kernel) (by decide +kernel)
theorem g_386 : (Jvm.Cond.code ({ cls := "ToldRows", name := "needName", desc := "(I)V" } : Jvm.MethodName) prog_1_method_20_code (1 : Nat) (Option.none : Option Jvm.ClassFile.FieldType)) ∈ lw_G := lw_mem 386 (by decide +kernel) (by decide +kernel)
theorem g_388 : (Jvm.Cond.methodLink "ToldRows" (141 : Nat) ({ cls := "ToldRows$Tellings", name := "findKth", desc := "(II)I" } : Jvm.MethodName)) ∈ lw_G := lw_mem 388 (by decide +kernel) (by decide +kernel)
theorem g_389 : (Jvm.Cond.instanceMethod ({ cls := "ToldRows$Tellings", name := "findKth", desc := "(II)I" } : Jvm.MethodName)) ∈ lw_G := lw_mem 389 (by decide +kernel) (by decide +kernel)
theorem g_390 : (Jvm.Cond.selects "ToldRows$Tellings" ({ cls := "ToldRows$Tellings", name := "findKth", desc := "(II)I" } : Jvm.MethodName) ({ cls := "ToldRows$Tellings", name := "findKth", desc := "(II)I" } : Jvm.MethodName)) ∈ lw_G := lw_mem 390 (by decide +kernel) (by decide +kernel)
theorem g_391 : (Jvm.Cond.code ({ cls := "ToldRows$Tellings", name := "findKth", desc := "(II)I" } : Jvm.MethodName) prog_4_method_3_code (5 : Nat) (Option.some Jvm.ClassFile.FieldType.int)) ∈ lw_G := lw_mem 391 (by decide +kernel) (by decide +kernel)
theorem g_393 : (Jvm.Cond.methodLink "ToldRows" (147 : Nat) ({ cls := "ToldRows$Tellings", name := "settleOn", desc := "(I)V" } : Jvm.MethodName)) ∈ lw_G := lw_mem 393 (by decide +kernel) (by decide +kernel)
theorem g_394 : (Jvm.Cond.instanceMethod ({ cls := "ToldRows$Tellings", name := "settleOn", desc := "(I)V" } : Jvm.MethodName)) ∈ lw_G := lw_mem 394 (by decide +kernel) (by decide +kernel)
theorem g_395 : (Jvm.Cond.selects "ToldRows$Tellings" ({ cls := "ToldRows$Tellings", name := "settleOn", desc := "(I)V" } : Jvm.MethodName) ({ cls := "ToldRows$Tellings", name := "settleOn", desc := "(I)V" } : Jvm.MethodName)) ∈ lw_G := lw_mem 395 (by decide +kernel) (by decide +kernel)
theorem g_396 : (Jvm.Cond.code ({ cls := "ToldRows$Tellings", name := "settleOn", desc := "(I)V" } : Jvm.MethodName) prog_4_method_5_code (3 : Nat) (Option.none : Option Jvm.ClassFile.FieldType)) ∈ lw_G := lw_mem 396 (by decide +kernel) (by decide +kernel)
theorem g_397 : (Jvm.Cond.methodLink "ToldRowsLaw" (106 : Nat) ({ cls := "ToldRowsLaw", name := "last", desc := "(LToldRows;III[J)I" } : Jvm.MethodName)) ∈ lw_G := lw_mem 397 (by decide +kernel) (by decide +kernel)
theorem g_398 : (Jvm.Cond.static ({ cls := "ToldRowsLaw", name := "last", desc := "(LToldRows;III[J)I" } : Jvm.MethodName)) ∈ lw_G := lw_mem 398 (by decide +kernel) (by decide +kernel)
theorem g_399 : (Jvm.Cond.codeWith ({ cls := "ToldRowsLaw", name := "last", desc := "(LToldRows;III[J)I" } : Jvm.MethodName) method_12_code (6 : Nat) (Option.some Jvm.ClassFile.FieldType.int) [((0 : Nat), (12 : Nat), (15 : Nat), (13 : Nat)), ((0 : Nat), (12 : Nat), (19 : Nat), (15 : Nat))]) ∈ lw_G := lw_mem 399 (by decide +kernel) (by decide +kernel)
theorem g_400 : (Jvm.Cond.methodLink "ToldRowsLaw" (50 : Nat) ({ cls := "ToldRows", name := "last", desc := "(III)I" } : Jvm.MethodName)) ∈ lw_G := lw_mem 400 (by decide +kernel) (by decide +kernel)
theorem g_401 : (Jvm.Cond.instanceMethod ({ cls := "ToldRows", name := "last", desc := "(III)I" } : Jvm.MethodName)) ∈ lw_G := lw_mem 401 (by decide +kernel) (by decide +kernel)
theorem g_402 : (Jvm.Cond.selects "ToldRows" ({ cls := "ToldRows", name := "last", desc := "(III)I" } : Jvm.MethodName) ({ cls := "ToldRows", name := "last", desc := "(III)I" } : Jvm.MethodName)) ∈ lw_G := lw_mem 402 (by decide +kernel) (by decide +kernel)
theorem g_403 : (Jvm.Cond.code ({ cls := "ToldRows", name := "last", desc := "(III)I" } : Jvm.MethodName) prog_1_method_11_code (6 : Nat) (Option.some Jvm.ClassFile.FieldType.int)) ∈ lw_G := lw_mem 403 (by decide +kernel) (by decide +kernel)
theorem g_404 : (Jvm.Cond.methodLink "ToldRows" (154 : Nat) ({ cls := "ToldRows", name := "needKey", desc := "(I)V" } : Jvm.MethodName)) ∈ lw_G := lw_mem 404 (by decide +kernel) (by decide +kernel)
theorem g_405 : (Jvm.Cond.static ({ cls := "ToldRows", name := "needKey", desc := "(I)V" } : Jvm.MethodName)) ∈ lw_G := lw_mem 405 (by decide +kernel) (by decide +kernel)
theorem g_406 : (Jvm.Cond.code ({ cls := "ToldRows", name := "needKey", desc := "(I)V" } : Jvm.MethodName) prog_1_method_17_code (1 : Nat) (Option.none : Option Jvm.ClassFile.FieldType)) ∈ lw_G := lw_mem 406 (by decide +kernel) (by decide +kernel)
theorem g_409 : (Jvm.Cond.methodLink "ToldRows" (159 : Nat) ({ cls := "ToldRows", name := "findLast", desc := "(LToldRows$Desk;II)I" } : Jvm.MethodName)) ∈ lw_G := lw_mem 409 (by decide +kernel) (by decide +kernel)
theorem g_411 : (Jvm.Cond.instanceMethod ({ cls := "ToldRows", name := "findLast", desc := "(LToldRows$Desk;II)I" } : Jvm.MethodName)) ∈ lw_G := lw_mem 411 (by decide +kernel) (by decide +kernel)
theorem g_412 : (Jvm.Cond.code ({ cls := "ToldRows", name := "findLast", desc := "(LToldRows$Desk;II)I" } : Jvm.MethodName) prog_1_method_29_code (6 : Nat) (Option.some Jvm.ClassFile.FieldType.int)) ∈ lw_G := lw_mem 412 (by decide +kernel) (by decide +kernel)
theorem g_413 : (Jvm.Cond.methodLink "ToldRows" (218 : Nat) ({ cls := "ToldRows$Tellings", name := "key", desc := "(I)I" } : Jvm.MethodName)) ∈ lw_G := lw_mem 413 (by decide +kernel) (by decide +kernel)
theorem g_414 : (Jvm.Cond.instanceMethod ({ cls := "ToldRows$Tellings", name := "key", desc := "(I)I" } : Jvm.MethodName)) ∈ lw_G := lw_mem 414 (by decide +kernel) (by decide +kernel)
theorem g_415 : (Jvm.Cond.selects "ToldRows$Tellings" ({ cls := "ToldRows$Tellings", name := "key", desc := "(I)I" } : Jvm.MethodName) ({ cls := "ToldRows$Tellings", name := "key", desc := "(I)I" } : Jvm.MethodName)) ∈ lw_G := lw_mem 415 (by decide +kernel) (by decide +kernel)
theorem g_416 : (Jvm.Cond.code ({ cls := "ToldRows$Tellings", name := "key", desc := "(I)I" } : Jvm.MethodName) prog_4_method_10_code (2 : Nat) (Option.some Jvm.ClassFile.FieldType.int)) ∈ lw_G := lw_mem 416 (by decide +kernel) (by decide +kernel)
theorem g_418 : (Jvm.Cond.static ({ cls := "ToldRows", name := "keyIn", desc := "(I)I" } : Jvm.MethodName)) ∈ lw_G := lw_mem 418 (by decide +kernel) (by decide +kernel)
theorem g_419 : (Jvm.Cond.code ({ cls := "ToldRows", name := "keyIn", desc := "(I)I" } : Jvm.MethodName) prog_1_method_23_code (1 : Nat) (Option.some Jvm.ClassFile.FieldType.int)) ∈ lw_G := lw_mem 419 (by decide +kernel) (by decide +kernel)
theorem g_420 : (Jvm.Cond.methodLink "ToldRows" (215 : Nat) ({ cls := "ToldRows$Desk", name := "hadSeen", desc := "(II)Z" } : Jvm.MethodName)) ∈ lw_G := lw_mem 420 (by decide +kernel) (by decide +kernel)
theorem g_421 : (Jvm.Cond.instanceMethod ({ cls := "ToldRows$Desk", name := "hadSeen", desc := "(II)Z" } : Jvm.MethodName)) ∈ lw_G := lw_mem 421 (by decide +kernel) (by decide +kernel)
theorem g_422 : (Jvm.Cond.selects "ToldRows$Desk" ({ cls := "ToldRows$Desk", name := "hadSeen", desc := "(II)Z" } : Jvm.MethodName) ({ cls := "ToldRows$Desk", name := "hadSeen", desc := "(II)Z" } : Jvm.MethodName)) ∈ lw_G := lw_mem 422 (by decide +kernel) (by decide +kernel)
theorem g_423 : (Jvm.Cond.code ({ cls := "ToldRows$Desk", name := "hadSeen", desc := "(II)Z" } : Jvm.MethodName) prog_2_method_4_code (3 : Nat) (Option.some Jvm.ClassFile.FieldType.boolean)) ∈ lw_G := lw_mem 423 (by decide +kernel) (by decide +kernel)
theorem g_424 : (Jvm.Cond.methodLink "ToldRows" (221 : Nat) ({ cls := "ToldRows", name := "isLater", desc := "(II)Z" } : Jvm.MethodName)) ∈ lw_G := lw_mem 424 (by decide +kernel) (by decide +kernel)
theorem g_426 : (Jvm.Cond.instanceMethod ({ cls := "ToldRows", name := "isLater", desc := "(II)Z" } : Jvm.MethodName)) ∈ lw_G := lw_mem 426 (by decide +kernel) (by decide +kernel)
theorem g_427 : (Jvm.Cond.code ({ cls := "ToldRows", name := "isLater", desc := "(II)Z" } : Jvm.MethodName) prog_1_method_30_code (5 : Nat) (Option.some Jvm.ClassFile.FieldType.boolean)) ∈ lw_G := lw_mem 427 (by decide +kernel) (by decide +kernel)
theorem g_428 : (Jvm.Cond.methodLink "ToldRows" (165 : Nat) ({ cls := "ToldRows", name := "realTimeOf", desc := "(I)I" } : Jvm.MethodName)) ∈ lw_G := lw_mem 428 (by decide +kernel) (by decide +kernel)
theorem g_430 : (Jvm.Cond.instanceMethod ({ cls := "ToldRows", name := "realTimeOf", desc := "(I)I" } : Jvm.MethodName)) ∈ lw_G := lw_mem 430 (by decide +kernel) (by decide +kernel)
theorem g_431 : (Jvm.Cond.code ({ cls := "ToldRows", name := "realTimeOf", desc := "(I)I" } : Jvm.MethodName) prog_1_method_31_code (3 : Nat) (Option.some Jvm.ClassFile.FieldType.int)) ∈ lw_G := lw_mem 431 (by decide +kernel) (by decide +kernel)
theorem g_432 : (Jvm.Cond.methodLink "ToldRows" (168 : Nat) ({ cls := "ToldRows$Tellings", name := "teller", desc := "(I)I" } : Jvm.MethodName)) ∈ lw_G := lw_mem 432 (by decide +kernel) (by decide +kernel)
theorem g_433 : (Jvm.Cond.instanceMethod ({ cls := "ToldRows$Tellings", name := "teller", desc := "(I)I" } : Jvm.MethodName)) ∈ lw_G := lw_mem 433 (by decide +kernel) (by decide +kernel)
theorem g_434 : (Jvm.Cond.selects "ToldRows$Tellings" ({ cls := "ToldRows$Tellings", name := "teller", desc := "(I)I" } : Jvm.MethodName) ({ cls := "ToldRows$Tellings", name := "teller", desc := "(I)I" } : Jvm.MethodName)) ∈ lw_G := lw_mem 434 (by decide +kernel) (by decide +kernel)
theorem g_435 : (Jvm.Cond.code ({ cls := "ToldRows$Tellings", name := "teller", desc := "(I)I" } : Jvm.MethodName) prog_4_method_7_code (2 : Nat) (Option.some Jvm.ClassFile.FieldType.int)) ∈ lw_G := lw_mem 435 (by decide +kernel) (by decide +kernel)
theorem g_436 : (Jvm.Cond.methodLink "ToldRows" (228 : Nat) ({ cls := "ToldRows$Tellings", name := "rank", desc := "(I)I" } : Jvm.MethodName)) ∈ lw_G := lw_mem 436 (by decide +kernel) (by decide +kernel)
theorem g_437 : (Jvm.Cond.instanceMethod ({ cls := "ToldRows$Tellings", name := "rank", desc := "(I)I" } : Jvm.MethodName)) ∈ lw_G := lw_mem 437 (by decide +kernel) (by decide +kernel)
theorem g_438 : (Jvm.Cond.selects "ToldRows$Tellings" ({ cls := "ToldRows$Tellings", name := "rank", desc := "(I)I" } : Jvm.MethodName) ({ cls := "ToldRows$Tellings", name := "rank", desc := "(I)I" } : Jvm.MethodName)) ∈ lw_G := lw_mem 438 (by decide +kernel) (by decide +kernel)
theorem g_439 : (Jvm.Cond.code ({ cls := "ToldRows$Tellings", name := "rank", desc := "(I)I" } : Jvm.MethodName) prog_4_method_11_code (2 : Nat) (Option.some Jvm.ClassFile.FieldType.int)) ∈ lw_G := lw_mem 439 (by decide +kernel) (by decide +kernel)
theorem g_440 : (Jvm.Cond.methodLink "ToldRows$Tellings" (37 : Nat) ({ cls := "ToldRows$Tellings", name := "life", desc := "(I)I" } : Jvm.MethodName)) ∈ lw_G := lw_mem 440 (by decide +kernel) (by decide +kernel)
theorem g_441 : (Jvm.Cond.instanceMethod ({ cls := "ToldRows$Tellings", name := "life", desc := "(I)I" } : Jvm.MethodName)) ∈ lw_G := lw_mem 441 (by decide +kernel) (by decide +kernel)
theorem g_442 : (Jvm.Cond.selects "ToldRows$Tellings" ({ cls := "ToldRows$Tellings", name := "life", desc := "(I)I" } : Jvm.MethodName) ({ cls := "ToldRows$Tellings", name := "life", desc := "(I)I" } : Jvm.MethodName)) ∈ lw_G := lw_mem 442 (by decide +kernel) (by decide +kernel)
theorem g_443 : (Jvm.Cond.code ({ cls := "ToldRows$Tellings", name := "life", desc := "(I)I" } : Jvm.MethodName) prog_4_method_8_code (2 : Nat) (Option.some Jvm.ClassFile.FieldType.int)) ∈ lw_G := lw_mem 443 (by decide +kernel) (by decide +kernel)
theorem g_445 : (Jvm.Cond.methodLink "ToldRows$Tellings" (40 : Nat) ({ cls := "ToldRows$Tellings", name := "teller", desc := "(I)I" } : Jvm.MethodName)) ∈ lw_G := lw_mem 445 (by decide +kernel) (by decide +kernel)
theorem g_446 : (Jvm.Cond.methodLink "ToldRows$Tellings" (43 : Nat) ({ cls := "ToldRows$Tellings", name := "number", desc := "(I)I" } : Jvm.MethodName)) ∈ lw_G := lw_mem 446 (by decide +kernel) (by decide +kernel)
theorem g_447 : (Jvm.Cond.instanceMethod ({ cls := "ToldRows$Tellings", name := "number", desc := "(I)I" } : Jvm.MethodName)) ∈ lw_G := lw_mem 447 (by decide +kernel) (by decide +kernel)
theorem g_448 : (Jvm.Cond.selects "ToldRows$Tellings" ({ cls := "ToldRows$Tellings", name := "number", desc := "(I)I" } : Jvm.MethodName) ({ cls := "ToldRows$Tellings", name := "number", desc := "(I)I" } : Jvm.MethodName)) ∈ lw_G := lw_mem 448 (by decide +kernel) (by decide +kernel)
theorem g_449 : (Jvm.Cond.code ({ cls := "ToldRows$Tellings", name := "number", desc := "(I)I" } : Jvm.MethodName) prog_4_method_9_code (2 : Nat) (Option.some Jvm.ClassFile.FieldType.int)) ∈ lw_G := lw_mem 449 (by decide +kernel) (by decide +kernel)
theorem g_450 : (Jvm.Cond.methodLink "ToldRows" (224 : Nat) ({ cls := "ToldRows", name := "countsBy", desc := "(LToldRows$Desk;II)Z" } : Jvm.MethodName)) ∈ lw_G := lw_mem 450 (by decide +kernel) (by decide +kernel)
theorem g_452 : (Jvm.Cond.instanceMethod ({ cls := "ToldRows", name := "countsBy", desc := "(LToldRows$Desk;II)Z" } : Jvm.MethodName)) ∈ lw_G := lw_mem 452 (by decide +kernel) (by decide +kernel)
theorem g_453 : (Jvm.Cond.code ({ cls := "ToldRows", name := "countsBy", desc := "(LToldRows$Desk;II)Z" } : Jvm.MethodName) prog_1_method_28_code (5 : Nat) (Option.some Jvm.ClassFile.FieldType.boolean)) ∈ lw_G := lw_mem 453 (by decide +kernel) (by decide +kernel)
theorem g_455 : (Jvm.Cond.methodLink "ToldRows" (171 : Nat) ({ cls := "ToldRows$Tellings", name := "number", desc := "(I)I" } : Jvm.MethodName)) ∈ lw_G := lw_mem 455 (by decide +kernel) (by decide +kernel)
theorem g_456 : (Jvm.Cond.methodLink "ToldRows" (174 : Nat) ({ cls := "ToldRows$Tellings", name := "life", desc := "(I)I" } : Jvm.MethodName)) ∈ lw_G := lw_mem 456 (by decide +kernel) (by decide +kernel)
theorem g_457 : (Jvm.Cond.methodLink "ToldRowsLaw" (109 : Nat) ({ cls := "ToldRowsLaw", name := "known", desc := "(LToldRows;III[J)I" } : Jvm.MethodName)) ∈ lw_G := lw_mem 457 (by decide +kernel) (by decide +kernel)
theorem g_458 : (Jvm.Cond.static ({ cls := "ToldRowsLaw", name := "known", desc := "(LToldRows;III[J)I" } : Jvm.MethodName)) ∈ lw_G := lw_mem 458 (by decide +kernel) (by decide +kernel)
theorem g_459 : (Jvm.Cond.codeWith ({ cls := "ToldRowsLaw", name := "known", desc := "(LToldRows;III[J)I" } : Jvm.MethodName) method_13_code (6 : Nat) (Option.some Jvm.ClassFile.FieldType.int) [((0 : Nat), (12 : Nat), (15 : Nat), (13 : Nat)), ((0 : Nat), (12 : Nat), (19 : Nat), (15 : Nat)), ((0 : Nat), (12 : Nat), (23 : Nat), (17 : Nat))]) ∈ lw_G := lw_mem 459 (by decide +kernel) (by decide +kernel)
theorem g_460 : (Jvm.Cond.methodLink "ToldRowsLaw" (53 : Nat) ({ cls := "ToldRows", name := "known", desc := "(III)I" } : Jvm.MethodName)) ∈ lw_G := lw_mem 460 (by decide +kernel) (by decide +kernel)
theorem g_461 : (Jvm.Cond.instanceMethod ({ cls := "ToldRows", name := "known", desc := "(III)I" } : Jvm.MethodName)) ∈ lw_G := lw_mem 461 (by decide +kernel) (by decide +kernel)
theorem g_462 : (Jvm.Cond.selects "ToldRows" ({ cls := "ToldRows", name := "known", desc := "(III)I" } : Jvm.MethodName) ({ cls := "ToldRows", name := "known", desc := "(III)I" } : Jvm.MethodName)) ∈ lw_G := lw_mem 462 (by decide +kernel) (by decide +kernel)
theorem g_463 : (Jvm.Cond.code ({ cls := "ToldRows", name := "known", desc := "(III)I" } : Jvm.MethodName) prog_1_method_12_code (6 : Nat) (Option.some Jvm.ClassFile.FieldType.int)) ∈ lw_G := lw_mem 463 (by decide +kernel) (by decide +kernel)
theorem g_466 : (Jvm.Cond.methodLink "ToldRowsLaw" (112 : Nat) ({ cls := "ToldRowsLaw", name := "many", desc := "(LToldRows;II[J)I" } : Jvm.MethodName)) ∈ lw_G := lw_mem 466 (by decide +kernel) (by decide +kernel)
theorem g_467 : (Jvm.Cond.static ({ cls := "ToldRowsLaw", name := "many", desc := "(LToldRows;II[J)I" } : Jvm.MethodName)) ∈ lw_G := lw_mem 467 (by decide +kernel) (by decide +kernel)
theorem g_468 : (Jvm.Cond.codeWith ({ cls := "ToldRowsLaw", name := "many", desc := "(LToldRows;II[J)I" } : Jvm.MethodName) method_14_code (5 : Nat) (Option.some Jvm.ClassFile.FieldType.int) [((0 : Nat), (10 : Nat), (13 : Nat), (13 : Nat))]) ∈ lw_G := lw_mem 468 (by decide +kernel) (by decide +kernel)
theorem g_469 : (Jvm.Cond.methodLink "ToldRowsLaw" (56 : Nat) ({ cls := "ToldRows", name := "many", desc := "(II)I" } : Jvm.MethodName)) ∈ lw_G := lw_mem 469 (by decide +kernel) (by decide +kernel)
theorem g_470 : (Jvm.Cond.instanceMethod ({ cls := "ToldRows", name := "many", desc := "(II)I" } : Jvm.MethodName)) ∈ lw_G := lw_mem 470 (by decide +kernel) (by decide +kernel)
theorem g_471 : (Jvm.Cond.selects "ToldRows" ({ cls := "ToldRows", name := "many", desc := "(II)I" } : Jvm.MethodName) ({ cls := "ToldRows", name := "many", desc := "(II)I" } : Jvm.MethodName)) ∈ lw_G := lw_mem 471 (by decide +kernel) (by decide +kernel)
theorem g_472 : (Jvm.Cond.code ({ cls := "ToldRows", name := "many", desc := "(II)I" } : Jvm.MethodName) prog_1_method_13_code (4 : Nat) (Option.some Jvm.ClassFile.FieldType.int)) ∈ lw_G := lw_mem 472 (by decide +kernel) (by decide +kernel)
theorem g_473 : (Jvm.Cond.methodLink "ToldRowsLaw" (115 : Nat) ({ cls := "ToldRowsLaw", name := "gap", desc := "(LToldRows;III[J)I" } : Jvm.MethodName)) ∈ lw_G := lw_mem 473 (by decide +kernel) (by decide +kernel)
theorem g_474 : (Jvm.Cond.static ({ cls := "ToldRowsLaw", name := "gap", desc := "(LToldRows;III[J)I" } : Jvm.MethodName)) ∈ lw_G := lw_mem 474 (by decide +kernel) (by decide +kernel)
theorem g_475 : (Jvm.Cond.codeWith ({ cls := "ToldRowsLaw", name := "gap", desc := "(LToldRows;III[J)I" } : Jvm.MethodName) method_15_code (6 : Nat) (Option.some Jvm.ClassFile.FieldType.int) [((0 : Nat), (12 : Nat), (15 : Nat), (13 : Nat))]) ∈ lw_G := lw_mem 475 (by decide +kernel) (by decide +kernel)
theorem g_476 : (Jvm.Cond.methodLink "ToldRowsLaw" (59 : Nat) ({ cls := "ToldRows", name := "gap", desc := "(III)I" } : Jvm.MethodName)) ∈ lw_G := lw_mem 476 (by decide +kernel) (by decide +kernel)
theorem g_477 : (Jvm.Cond.instanceMethod ({ cls := "ToldRows", name := "gap", desc := "(III)I" } : Jvm.MethodName)) ∈ lw_G := lw_mem 477 (by decide +kernel) (by decide +kernel)
theorem g_478 : (Jvm.Cond.selects "ToldRows" ({ cls := "ToldRows", name := "gap", desc := "(III)I" } : Jvm.MethodName) ({ cls := "ToldRows", name := "gap", desc := "(III)I" } : Jvm.MethodName)) ∈ lw_G := lw_mem 478 (by decide +kernel) (by decide +kernel)
theorem g_479 : (Jvm.Cond.code ({ cls := "ToldRows", name := "gap", desc := "(III)I" } : Jvm.MethodName) prog_1_method_14_code (8 : Nat) (Option.some Jvm.ClassFile.FieldType.int)) ∈ lw_G := lw_mem 479 (by decide +kernel) (by decide +kernel)
theorem g_480 : (Jvm.Cond.methodLink "ToldRows" (186 : Nat) ({ cls := "ToldRows", name := "hear", desc := "(LToldRows$Desk;I)I" } : Jvm.MethodName)) ∈ lw_G := lw_mem 480 (by decide +kernel) (by decide +kernel)
theorem g_482 : (Jvm.Cond.instanceMethod ({ cls := "ToldRows", name := "hear", desc := "(LToldRows$Desk;I)I" } : Jvm.MethodName)) ∈ lw_G := lw_mem 482 (by decide +kernel) (by decide +kernel)
theorem g_483 : (Jvm.Cond.code ({ cls := "ToldRows", name := "hear", desc := "(LToldRows$Desk;I)I" } : Jvm.MethodName) prog_1_method_32_code (7 : Nat) (Option.some Jvm.ClassFile.FieldType.int)) ∈ lw_G := lw_mem 483 (by decide +kernel) (by decide +kernel)
theorem g_484 : (Jvm.Cond.methodLink "ToldRows" (237 : Nat) ({ cls := "java/lang/Math", name := "max", desc := "(II)I" } : Jvm.MethodName)) ∈ lw_G := lw_mem 484 (by decide +kernel) (by decide +kernel)
theorem g_485 : (Jvm.Cond.static ({ cls := "java/lang/Math", name := "max", desc := "(II)I" } : Jvm.MethodName)) ∈ lw_G := lw_mem 485 (by decide +kernel) (by decide +kernel)
theorem g_486 : (Jvm.Cond.code ({ cls := "java/lang/Math", name := "max", desc := "(II)I" } : Jvm.MethodName) prog_11_method_65_code (2 : Nat) (Option.some Jvm.ClassFile.FieldType.int)) ∈ lw_G := lw_mem 486 (by decide +kernel) (by decide +kernel)
theorem g_487 : (Jvm.Cond.classLink "ToldRowsLaw" (63 : Nat) "ToldRowsModel") ∈ lw_G := lw_mem 487 (by decide +kernel) (by decide +kernel)
theorem g_488 : (Jvm.Cond.instantiable "ToldRowsModel" (16 : Nat)) ∈ lw_G := lw_mem 488 (by decide +kernel) (by decide +kernel)
theorem g_489 : (Jvm.Cond.methodLink "ToldRowsLaw" (65 : Nat) ({ cls := "ToldRowsModel", name := "<init>", desc := "()V" } : Jvm.MethodName)) ∈ lw_G := lw_mem 489 (by decide +kernel) (by decide +kernel)
theorem g_490 : (Jvm.Cond.instanceMethod ({ cls := "ToldRowsModel", name := "<init>", desc := "()V" } : Jvm.MethodName)) ∈ lw_G := lw_mem 490 (by decide +kernel) (by decide +kernel)
theorem g_491 : (Jvm.Cond.code ({ cls := "ToldRowsModel", name := "<init>", desc := "()V" } : Jvm.MethodName) prog_6_method_1_code (1 : Nat) (Option.none : Option Jvm.ClassFile.FieldType)) ∈ lw_G := lw_mem 491 (by decide +kernel) (by decide +kernel)
theorem g_492 : (Jvm.Cond.methodLink "ToldRowsModel" (1 : Nat) ({ cls := "java/lang/Object", name := "<init>", desc := "()V" } : Jvm.MethodName)) ∈ lw_G := lw_mem 492 (by decide +kernel) (by decide +kernel)
theorem g_493 : (Jvm.Cond.fieldLink "ToldRowsModel" (53 : Nat) "ToldRowsModel" "thrown" "I") ∈ lw_G := lw_mem 493 (by decide +kernel) (by decide +kernel)
theorem g_494 : (Jvm.Cond.fieldLink "ToldRowsModel" (7 : Nat) "ToldRowsModel" "life" "[I") ∈ lw_G := lw_mem 494 (by decide +kernel) (by decide +kernel)
theorem g_495 : (Jvm.Cond.fieldLink "ToldRowsModel" (13 : Nat) "ToldRowsModel" "marks" "[I") ∈ lw_G := lw_mem 495 (by decide +kernel) (by decide +kernel)
theorem g_496 : (Jvm.Cond.fieldLink "ToldRowsModel" (16 : Nat) "ToldRowsModel" "own" "[I") ∈ lw_G := lw_mem 496 (by decide +kernel) (by decide +kernel)
theorem g_497 : (Jvm.Cond.fieldLink "ToldRowsModel" (19 : Nat) "ToldRowsModel" "real" "[I") ∈ lw_G := lw_mem 497 (by decide +kernel) (by decide +kernel)
theorem g_498 : (Jvm.Cond.fieldLink "ToldRowsModel" (74 : Nat) "ToldRowsModel" "kept" "I") ∈ lw_G := lw_mem 498 (by decide +kernel) (by decide +kernel)
theorem g_499 : (Jvm.Cond.fieldLink "ToldRowsModel" (22 : Nat) "ToldRowsModel" "teller" "[I") ∈ lw_G := lw_mem 499 (by decide +kernel) (by decide +kernel)
theorem g_500 : (Jvm.Cond.fieldLink "ToldRowsModel" (25 : Nat) "ToldRowsModel" "lived" "[I") ∈ lw_G := lw_mem 500 (by decide +kernel) (by decide +kernel)
theorem g_501 : (Jvm.Cond.fieldLink "ToldRowsModel" (28 : Nat) "ToldRowsModel" "number" "[I") ∈ lw_G := lw_mem 501 (by decide +kernel) (by decide +kernel)
theorem g_502 : (Jvm.Cond.fieldLink "ToldRowsModel" (31 : Nat) "ToldRowsModel" "key" "[I") ∈ lw_G := lw_mem 502 (by decide +kernel) (by decide +kernel)
theorem g_503 : (Jvm.Cond.fieldLink "ToldRowsModel" (34 : Nat) "ToldRowsModel" "value" "[I") ∈ lw_G := lw_mem 503 (by decide +kernel) (by decide +kernel)
theorem g_504 : (Jvm.Cond.fieldLink "ToldRowsModel" (37 : Nat) "ToldRowsModel" "time" "[I") ∈ lw_G := lw_mem 504 (by decide +kernel) (by decide +kernel)
theorem g_505 : (Jvm.Cond.fieldLink "ToldRowsModel" (40 : Nat) "ToldRowsModel" "settled" "[Z") ∈ lw_G := lw_mem 505 (by decide +kernel) (by decide +kernel)
theorem g_506 : (Jvm.Cond.fieldLink "ToldRowsModel" (44 : Nat) "ToldRowsModel" "seen" "[I") ∈ lw_G := lw_mem 506 (by decide +kernel) (by decide +kernel)
theorem g_507 : (Jvm.Cond.fieldLink "ToldRowsModel" (47 : Nat) "ToldRowsModel" "moment" "[I") ∈ lw_G := lw_mem 507 (by decide +kernel) (by decide +kernel)
theorem g_508 : (Jvm.Cond.fieldLink "ToldRowsModel" (50 : Nat) "ToldRowsModel" "open" "[Z") ∈ lw_G := lw_mem 508 (by decide +kernel) (by decide +kernel)
theorem g_509 : (Jvm.Cond.lays "ToldRowsModel" "ToldRowsModel" "thrown" "I") ∈ lw_G := lw_mem 509 (by decide +kernel) (by decide +kernel)
theorem g_511 : (Jvm.Cond.laysFinal "ToldRowsModel" "ToldRowsModel" "life" "[I") ∈ lw_G := lw_mem 511 (by decide +kernel) (by decide +kernel)
theorem g_513 : (Jvm.Cond.laysFinal "ToldRowsModel" "ToldRowsModel" "marks" "[I") ∈ lw_G := lw_mem 513 (by decide +kernel) (by decide +kernel)
theorem g_515 : (Jvm.Cond.laysFinal "ToldRowsModel" "ToldRowsModel" "own" "[I") ∈ lw_G := lw_mem 515 (by decide +kernel) (by decide +kernel)
theorem g_517 : (Jvm.Cond.laysFinal "ToldRowsModel" "ToldRowsModel" "real" "[I") ∈ lw_G := lw_mem 517 (by decide +kernel) (by decide +kernel)
theorem g_519 : (Jvm.Cond.lays "ToldRowsModel" "ToldRowsModel" "kept" "I") ∈ lw_G := lw_mem 519 (by decide +kernel) (by decide +kernel)
theorem g_521 : (Jvm.Cond.laysFinal "ToldRowsModel" "ToldRowsModel" "teller" "[I") ∈ lw_G := lw_mem 521 (by decide +kernel) (by decide +kernel)
theorem g_523 : (Jvm.Cond.laysFinal "ToldRowsModel" "ToldRowsModel" "lived" "[I") ∈ lw_G := lw_mem 523 (by decide +kernel) (by decide +kernel)
theorem g_525 : (Jvm.Cond.laysFinal "ToldRowsModel" "ToldRowsModel" "number" "[I") ∈ lw_G := lw_mem 525 (by decide +kernel) (by decide +kernel)
theorem g_527 : (Jvm.Cond.laysFinal "ToldRowsModel" "ToldRowsModel" "key" "[I") ∈ lw_G := lw_mem 527 (by decide +kernel) (by decide +kernel)
theorem g_529 : (Jvm.Cond.laysFinal "ToldRowsModel" "ToldRowsModel" "value" "[I") ∈ lw_G := lw_mem 529 (by decide +kernel) (by decide +kernel)
theorem g_531 : (Jvm.Cond.laysFinal "ToldRowsModel" "ToldRowsModel" "time" "[I") ∈ lw_G := lw_mem 531 (by decide +kernel) (by decide +kernel)
theorem g_533 : (Jvm.Cond.laysFinal "ToldRowsModel" "ToldRowsModel" "settled" "[Z") ∈ lw_G := lw_mem 533 (by decide +kernel) (by decide +kernel)
theorem g_535 : (Jvm.Cond.laysFinal "ToldRowsModel" "ToldRowsModel" "seen" "[I") ∈ lw_G := lw_mem 535 (by decide +kernel) (by decide +kernel)
theorem g_537 : (Jvm.Cond.laysFinal "ToldRowsModel" "ToldRowsModel" "moment" "[I") ∈ lw_G := lw_mem 537 (by decide +kernel) (by decide +kernel)
theorem g_539 : (Jvm.Cond.laysFinal "ToldRowsModel" "ToldRowsModel" "open" "[Z") ∈ lw_G := lw_mem 539 (by decide +kernel) (by decide +kernel)
theorem g_542 : (Jvm.Cond.methodLink "ToldRowsLaw" (72 : Nat) ({ cls := "ToldRowsModel", name := "thrown", desc := "()I" } : Jvm.MethodName)) ∈ lw_G := lw_mem 542 (by decide +kernel) (by decide +kernel)
theorem g_543 : (Jvm.Cond.instanceMethod ({ cls := "ToldRowsModel", name := "thrown", desc := "()I" } : Jvm.MethodName)) ∈ lw_G := lw_mem 543 (by decide +kernel) (by decide +kernel)
theorem g_544 : (Jvm.Cond.selects "ToldRowsModel" ({ cls := "ToldRowsModel", name := "thrown", desc := "()I" } : Jvm.MethodName) ({ cls := "ToldRowsModel", name := "thrown", desc := "()I" } : Jvm.MethodName)) ∈ lw_G := lw_mem 544 (by decide +kernel) (by decide +kernel)
theorem g_545 : (Jvm.Cond.code ({ cls := "ToldRowsModel", name := "thrown", desc := "()I" } : Jvm.MethodName) prog_6_method_2_code (1 : Nat) (Option.some Jvm.ClassFile.FieldType.int)) ∈ lw_G := lw_mem 545 (by decide +kernel) (by decide +kernel)
theorem g_546 : (Jvm.Cond.methodLink "ToldRowsLaw" (71 : Nat) ({ cls := "ToldRowsModel", name := "mark", desc := "(III)I" } : Jvm.MethodName)) ∈ lw_G := lw_mem 546 (by decide +kernel) (by decide +kernel)
theorem g_547 : (Jvm.Cond.instanceMethod ({ cls := "ToldRowsModel", name := "mark", desc := "(III)I" } : Jvm.MethodName)) ∈ lw_G := lw_mem 547 (by decide +kernel) (by decide +kernel)
theorem g_548 : (Jvm.Cond.selects "ToldRowsModel" ({ cls := "ToldRowsModel", name := "mark", desc := "(III)I" } : Jvm.MethodName) ({ cls := "ToldRowsModel", name := "mark", desc := "(III)I" } : Jvm.MethodName)) ∈ lw_G := lw_mem 548 (by decide +kernel) (by decide +kernel)
theorem g_549 : (Jvm.Cond.code ({ cls := "ToldRowsModel", name := "mark", desc := "(III)I" } : Jvm.MethodName) prog_6_method_7_code (8 : Nat) (Option.some Jvm.ClassFile.FieldType.int)) ∈ lw_G := lw_mem 549 (by decide +kernel) (by decide +kernel)
theorem g_550 : (Jvm.Cond.methodLink "ToldRowsModel" (61 : Nat) ({ cls := "ToldRowsModel", name := "isTeller", desc := "(I)Z" } : Jvm.MethodName)) ∈ lw_G := lw_mem 550 (by decide +kernel) (by decide +kernel)
theorem g_551 : (Jvm.Cond.static ({ cls := "ToldRowsModel", name := "isTeller", desc := "(I)Z" } : Jvm.MethodName)) ∈ lw_G := lw_mem 551 (by decide +kernel) (by decide +kernel)
theorem g_552 : (Jvm.Cond.code ({ cls := "ToldRowsModel", name := "isTeller", desc := "(I)Z" } : Jvm.MethodName) prog_6_method_6_code (1 : Nat) (Option.some Jvm.ClassFile.FieldType.boolean)) ∈ lw_G := lw_mem 552 (by decide +kernel) (by decide +kernel)
theorem g_553 : (Jvm.Cond.methodLink "ToldRowsModel" (57 : Nat) ({ cls := "ToldRowsModel", name := "in", desc := "(JII)Z" } : Jvm.MethodName)) ∈ lw_G := lw_mem 553 (by decide +kernel) (by decide +kernel)
theorem g_554 : (Jvm.Cond.static ({ cls := "ToldRowsModel", name := "in", desc := "(JII)Z" } : Jvm.MethodName)) ∈ lw_G := lw_mem 554 (by decide +kernel) (by decide +kernel)
theorem g_555 : (Jvm.Cond.code ({ cls := "ToldRowsModel", name := "in", desc := "(JII)Z" } : Jvm.MethodName) prog_6_method_4_code (4 : Nat) (Option.some Jvm.ClassFile.FieldType.boolean)) ∈ lw_G := lw_mem 555 (by decide +kernel) (by decide +kernel)
theorem g_556 : (Jvm.Cond.constant "ToldRowsModel" (65 : Nat) (1000000 : Int32)) ∈ lw_G := lw_mem 556 (by decide +kernel) (by decide +kernel)
theorem g_557 : (Jvm.Cond.methodLink "ToldRowsModel" (66 : Nat) ({ cls := "ToldRowsModel", name := "throwing", desc := "(ZZZZ)Z" } : Jvm.MethodName)) ∈ lw_G := lw_mem 557 (by decide +kernel) (by decide +kernel)
theorem g_559 : (Jvm.Cond.instanceMethod ({ cls := "ToldRowsModel", name := "throwing", desc := "(ZZZZ)Z" } : Jvm.MethodName)) ∈ lw_G := lw_mem 559 (by decide +kernel) (by decide +kernel)
theorem g_560 : (Jvm.Cond.code ({ cls := "ToldRowsModel", name := "throwing", desc := "(ZZZZ)Z" } : Jvm.MethodName) prog_6_method_3_code (5 : Nat) (Option.some Jvm.ClassFile.FieldType.boolean)) ∈ lw_G := lw_mem 560 (by decide +kernel) (by decide +kernel)
theorem g_561 : (Jvm.Cond.methodLink "ToldRowsLaw" (79 : Nat) ({ cls := "ToldRowsModel", name := "real", desc := "(II)I" } : Jvm.MethodName)) ∈ lw_G := lw_mem 561 (by decide +kernel) (by decide +kernel)
theorem g_562 : (Jvm.Cond.instanceMethod ({ cls := "ToldRowsModel", name := "real", desc := "(II)I" } : Jvm.MethodName)) ∈ lw_G := lw_mem 562 (by decide +kernel) (by decide +kernel)
theorem g_563 : (Jvm.Cond.selects "ToldRowsModel" ({ cls := "ToldRowsModel", name := "real", desc := "(II)I" } : Jvm.MethodName) ({ cls := "ToldRowsModel", name := "real", desc := "(II)I" } : Jvm.MethodName)) ∈ lw_G := lw_mem 563 (by decide +kernel) (by decide +kernel)
theorem g_564 : (Jvm.Cond.code ({ cls := "ToldRowsModel", name := "real", desc := "(II)I" } : Jvm.MethodName) prog_6_method_9_code (3 : Nat) (Option.some Jvm.ClassFile.FieldType.int)) ∈ lw_G := lw_mem 564 (by decide +kernel) (by decide +kernel)
theorem g_565 : (Jvm.Cond.methodLink "ToldRowsModel" (70 : Nat) ({ cls := "ToldRowsModel", name := "realOf", desc := "(II)I" } : Jvm.MethodName)) ∈ lw_G := lw_mem 565 (by decide +kernel) (by decide +kernel)
theorem g_567 : (Jvm.Cond.instanceMethod ({ cls := "ToldRowsModel", name := "realOf", desc := "(II)I" } : Jvm.MethodName)) ∈ lw_G := lw_mem 567 (by decide +kernel) (by decide +kernel)
theorem g_568 : (Jvm.Cond.code ({ cls := "ToldRowsModel", name := "realOf", desc := "(II)I" } : Jvm.MethodName) prog_6_method_8_code (9 : Nat) (Option.some Jvm.ClassFile.FieldType.int)) ∈ lw_G := lw_mem 568 (by decide +kernel) (by decide +kernel)
theorem g_569 : (Jvm.Cond.methodLink "ToldRowsLaw" (85 : Nat) ({ cls := "ToldRowsModel", name := "tell", desc := "(IIJI)I" } : Jvm.MethodName)) ∈ lw_G := lw_mem 569 (by decide +kernel) (by decide +kernel)
theorem g_570 : (Jvm.Cond.instanceMethod ({ cls := "ToldRowsModel", name := "tell", desc := "(IIJI)I" } : Jvm.MethodName)) ∈ lw_G := lw_mem 570 (by decide +kernel) (by decide +kernel)
theorem g_571 : (Jvm.Cond.selects "ToldRowsModel" ({ cls := "ToldRowsModel", name := "tell", desc := "(IIJI)I" } : Jvm.MethodName) ({ cls := "ToldRowsModel", name := "tell", desc := "(IIJI)I" } : Jvm.MethodName)) ∈ lw_G := lw_mem 571 (by decide +kernel) (by decide +kernel)
theorem g_572 : (Jvm.Cond.code ({ cls := "ToldRowsModel", name := "tell", desc := "(IIJI)I" } : Jvm.MethodName) prog_6_method_14_code (14 : Nat) (Option.some Jvm.ClassFile.FieldType.int)) ∈ lw_G := lw_mem 572 (by decide +kernel) (by decide +kernel)
theorem g_573 : (Jvm.Cond.methodLink "ToldRowsModel" (77 : Nat) ({ cls := "ToldRowsModel", name := "isDesk", desc := "(I)Z" } : Jvm.MethodName)) ∈ lw_G := lw_mem 573 (by decide +kernel) (by decide +kernel)
theorem g_574 : (Jvm.Cond.static ({ cls := "ToldRowsModel", name := "isDesk", desc := "(I)Z" } : Jvm.MethodName)) ∈ lw_G := lw_mem 574 (by decide +kernel) (by decide +kernel)
theorem g_575 : (Jvm.Cond.code ({ cls := "ToldRowsModel", name := "isDesk", desc := "(I)Z" } : Jvm.MethodName) prog_6_method_5_code (1 : Nat) (Option.some Jvm.ClassFile.FieldType.boolean)) ∈ lw_G := lw_mem 575 (by decide +kernel) (by decide +kernel)
theorem g_576 : (Jvm.Cond.constantLong "ToldRowsModel" (80 : Nat) (1048575 : Int64)) ∈ lw_G := lw_mem 576 (by decide +kernel) (by decide +kernel)
theorem g_577 : (Jvm.Cond.constantLong "ToldRowsModel" (82 : Nat) (7 : Int64)) ∈ lw_G := lw_mem 577 (by decide +kernel) (by decide +kernel)
theorem g_578 : (Jvm.Cond.constantLong "ToldRowsModel" (84 : Nat) (127 : Int64)) ∈ lw_G := lw_mem 578 (by decide +kernel) (by decide +kernel)
theorem g_579 : (Jvm.Cond.methodLink "ToldRowsModel" (86 : Nat) ({ cls := "ToldRowsModel", name := "find", desc := "(IIIII)I" } : Jvm.MethodName)) ∈ lw_G := lw_mem 579 (by decide +kernel) (by decide +kernel)
theorem g_581 : (Jvm.Cond.instanceMethod ({ cls := "ToldRowsModel", name := "find", desc := "(IIIII)I" } : Jvm.MethodName)) ∈ lw_G := lw_mem 581 (by decide +kernel) (by decide +kernel)
theorem g_582 : (Jvm.Cond.code ({ cls := "ToldRowsModel", name := "find", desc := "(IIIII)I" } : Jvm.MethodName) prog_6_method_13_code (8 : Nat) (Option.some Jvm.ClassFile.FieldType.int)) ∈ lw_G := lw_mem 582 (by decide +kernel) (by decide +kernel)
theorem g_583 : (Jvm.Cond.methodLink "ToldRowsModel" (90 : Nat) ({ cls := "ToldRowsModel", name := "has", desc := "(II)Z" } : Jvm.MethodName)) ∈ lw_G := lw_mem 583 (by decide +kernel) (by decide +kernel)
theorem g_585 : (Jvm.Cond.instanceMethod ({ cls := "ToldRowsModel", name := "has", desc := "(II)Z" } : Jvm.MethodName)) ∈ lw_G := lw_mem 585 (by decide +kernel) (by decide +kernel)
theorem g_586 : (Jvm.Cond.code ({ cls := "ToldRowsModel", name := "has", desc := "(II)Z" } : Jvm.MethodName) prog_6_method_12_code (3 : Nat) (Option.some Jvm.ClassFile.FieldType.boolean)) ∈ lw_G := lw_mem 586 (by decide +kernel) (by decide +kernel)
theorem g_587 : (Jvm.Cond.methodLink "ToldRowsModel" (94 : Nat) ({ cls := "ToldRowsModel", name := "areRivals", desc := "(II)Z" } : Jvm.MethodName)) ∈ lw_G := lw_mem 587 (by decide +kernel) (by decide +kernel)
theorem g_589 : (Jvm.Cond.instanceMethod ({ cls := "ToldRowsModel", name := "areRivals", desc := "(II)Z" } : Jvm.MethodName)) ∈ lw_G := lw_mem 589 (by decide +kernel) (by decide +kernel)
theorem g_590 : (Jvm.Cond.code ({ cls := "ToldRowsModel", name := "areRivals", desc := "(II)Z" } : Jvm.MethodName) prog_6_method_10_code (3 : Nat) (Option.some Jvm.ClassFile.FieldType.boolean)) ∈ lw_G := lw_mem 590 (by decide +kernel) (by decide +kernel)
theorem g_591 : (Jvm.Cond.methodLink "ToldRowsModel" (97 : Nat) ({ cls := "ToldRowsModel", name := "comes", desc := "(II)V" } : Jvm.MethodName)) ∈ lw_G := lw_mem 591 (by decide +kernel) (by decide +kernel)
theorem g_593 : (Jvm.Cond.instanceMethod ({ cls := "ToldRowsModel", name := "comes", desc := "(II)V" } : Jvm.MethodName)) ∈ lw_G := lw_mem 593 (by decide +kernel) (by decide +kernel)
theorem g_594 : (Jvm.Cond.code ({ cls := "ToldRowsModel", name := "comes", desc := "(II)V" } : Jvm.MethodName) prog_6_method_11_code (3 : Nat) (Option.none : Option Jvm.ClassFile.FieldType)) ∈ lw_G := lw_mem 594 (by decide +kernel) (by decide +kernel)
theorem g_595 : (Jvm.Cond.methodLink "ToldRowsLaw" (89 : Nat) ({ cls := "ToldRowsModel", name := "restart", desc := "(I)I" } : Jvm.MethodName)) ∈ lw_G := lw_mem 595 (by decide +kernel) (by decide +kernel)
theorem g_596 : (Jvm.Cond.instanceMethod ({ cls := "ToldRowsModel", name := "restart", desc := "(I)I" } : Jvm.MethodName)) ∈ lw_G := lw_mem 596 (by decide +kernel) (by decide +kernel)
theorem g_597 : (Jvm.Cond.selects "ToldRowsModel" ({ cls := "ToldRowsModel", name := "restart", desc := "(I)I" } : Jvm.MethodName) ({ cls := "ToldRowsModel", name := "restart", desc := "(I)I" } : Jvm.MethodName)) ∈ lw_G := lw_mem 597 (by decide +kernel) (by decide +kernel)
theorem g_598 : (Jvm.Cond.code ({ cls := "ToldRowsModel", name := "restart", desc := "(I)I" } : Jvm.MethodName) prog_6_method_15_code (3 : Nat) (Option.some Jvm.ClassFile.FieldType.int)) ∈ lw_G := lw_mem 598 (by decide +kernel) (by decide +kernel)
theorem g_599 : (Jvm.Cond.methodLink "ToldRowsLaw" (92 : Nat) ({ cls := "ToldRowsModel", name := "join", desc := "(II)I" } : Jvm.MethodName)) ∈ lw_G := lw_mem 599 (by decide +kernel) (by decide +kernel)
theorem g_600 : (Jvm.Cond.instanceMethod ({ cls := "ToldRowsModel", name := "join", desc := "(II)I" } : Jvm.MethodName)) ∈ lw_G := lw_mem 600 (by decide +kernel) (by decide +kernel)
theorem g_601 : (Jvm.Cond.selects "ToldRowsModel" ({ cls := "ToldRowsModel", name := "join", desc := "(II)I" } : Jvm.MethodName) ({ cls := "ToldRowsModel", name := "join", desc := "(II)I" } : Jvm.MethodName)) ∈ lw_G := lw_mem 601 (by decide +kernel) (by decide +kernel)
theorem g_602 : (Jvm.Cond.code ({ cls := "ToldRowsModel", name := "join", desc := "(II)I" } : Jvm.MethodName) prog_6_method_16_code (5 : Nat) (Option.some Jvm.ClassFile.FieldType.int)) ∈ lw_G := lw_mem 602 (by decide +kernel) (by decide +kernel)
theorem g_603 : (Jvm.Cond.methodLink "ToldRowsLaw" (96 : Nat) ({ cls := "ToldRowsModel", name := "batch", desc := "(IZ)I" } : Jvm.MethodName)) ∈ lw_G := lw_mem 603 (by decide +kernel) (by decide +kernel)
theorem g_604 : (Jvm.Cond.instanceMethod ({ cls := "ToldRowsModel", name := "batch", desc := "(IZ)I" } : Jvm.MethodName)) ∈ lw_G := lw_mem 604 (by decide +kernel) (by decide +kernel)
theorem g_605 : (Jvm.Cond.selects "ToldRowsModel" ({ cls := "ToldRowsModel", name := "batch", desc := "(IZ)I" } : Jvm.MethodName) ({ cls := "ToldRowsModel", name := "batch", desc := "(IZ)I" } : Jvm.MethodName)) ∈ lw_G := lw_mem 605 (by decide +kernel) (by decide +kernel)
theorem g_606 : (Jvm.Cond.code ({ cls := "ToldRowsModel", name := "batch", desc := "(IZ)I" } : Jvm.MethodName) prog_6_method_17_code (6 : Nat) (Option.some Jvm.ClassFile.FieldType.int)) ∈ lw_G := lw_mem 606 (by decide +kernel) (by decide +kernel)
theorem g_607 : (Jvm.Cond.methodLink "ToldRowsLaw" (99 : Nat) ({ cls := "ToldRowsModel", name := "same", desc := "(II)Z" } : Jvm.MethodName)) ∈ lw_G := lw_mem 607 (by decide +kernel) (by decide +kernel)
theorem g_608 : (Jvm.Cond.instanceMethod ({ cls := "ToldRowsModel", name := "same", desc := "(II)Z" } : Jvm.MethodName)) ∈ lw_G := lw_mem 608 (by decide +kernel) (by decide +kernel)
theorem g_609 : (Jvm.Cond.selects "ToldRowsModel" ({ cls := "ToldRowsModel", name := "same", desc := "(II)Z" } : Jvm.MethodName) ({ cls := "ToldRowsModel", name := "same", desc := "(II)Z" } : Jvm.MethodName)) ∈ lw_G := lw_mem 609 (by decide +kernel) (by decide +kernel)
theorem g_610 : (Jvm.Cond.code ({ cls := "ToldRowsModel", name := "same", desc := "(II)Z" } : Jvm.MethodName) prog_6_method_19_code (5 : Nat) (Option.some Jvm.ClassFile.FieldType.boolean)) ∈ lw_G := lw_mem 610 (by decide +kernel) (by decide +kernel)
theorem g_611 : (Jvm.Cond.methodLink "ToldRowsModel" (101 : Nat) ({ cls := "ToldRowsModel", name := "sees", desc := "(III)Z" } : Jvm.MethodName)) ∈ lw_G := lw_mem 611 (by decide +kernel) (by decide +kernel)
theorem g_613 : (Jvm.Cond.instanceMethod ({ cls := "ToldRowsModel", name := "sees", desc := "(III)Z" } : Jvm.MethodName)) ∈ lw_G := lw_mem 613 (by decide +kernel) (by decide +kernel)
theorem g_614 : (Jvm.Cond.code ({ cls := "ToldRowsModel", name := "sees", desc := "(III)Z" } : Jvm.MethodName) prog_6_method_18_code (4 : Nat) (Option.some Jvm.ClassFile.FieldType.boolean)) ∈ lw_G := lw_mem 614 (by decide +kernel) (by decide +kernel)
theorem g_615 : (Jvm.Cond.methodLink "ToldRowsLaw" (102 : Nat) ({ cls := "ToldRowsModel", name := "conflicts", desc := "(I)I" } : Jvm.MethodName)) ∈ lw_G := lw_mem 615 (by decide +kernel) (by decide +kernel)
theorem g_616 : (Jvm.Cond.instanceMethod ({ cls := "ToldRowsModel", name := "conflicts", desc := "(I)I" } : Jvm.MethodName)) ∈ lw_G := lw_mem 616 (by decide +kernel) (by decide +kernel)
theorem g_617 : (Jvm.Cond.selects "ToldRowsModel" ({ cls := "ToldRowsModel", name := "conflicts", desc := "(I)I" } : Jvm.MethodName) ({ cls := "ToldRowsModel", name := "conflicts", desc := "(I)I" } : Jvm.MethodName)) ∈ lw_G := lw_mem 617 (by decide +kernel) (by decide +kernel)
theorem g_618 : (Jvm.Cond.code ({ cls := "ToldRowsModel", name := "conflicts", desc := "(I)I" } : Jvm.MethodName) prog_6_method_20_code (9 : Nat) (Option.some Jvm.ClassFile.FieldType.int)) ∈ lw_G := lw_mem 618 (by decide +kernel) (by decide +kernel)
theorem g_619 : (Jvm.Cond.methodLink "ToldRowsLaw" (105 : Nat) ({ cls := "ToldRowsModel", name := "settle", desc := "(II)I" } : Jvm.MethodName)) ∈ lw_G := lw_mem 619 (by decide +kernel) (by decide +kernel)
theorem g_620 : (Jvm.Cond.instanceMethod ({ cls := "ToldRowsModel", name := "settle", desc := "(II)I" } : Jvm.MethodName)) ∈ lw_G := lw_mem 620 (by decide +kernel) (by decide +kernel)
theorem g_621 : (Jvm.Cond.selects "ToldRowsModel" ({ cls := "ToldRowsModel", name := "settle", desc := "(II)I" } : Jvm.MethodName) ({ cls := "ToldRowsModel", name := "settle", desc := "(II)I" } : Jvm.MethodName)) ∈ lw_G := lw_mem 621 (by decide +kernel) (by decide +kernel)
theorem g_622 : (Jvm.Cond.code ({ cls := "ToldRowsModel", name := "settle", desc := "(II)I" } : Jvm.MethodName) prog_6_method_21_code (9 : Nat) (Option.some Jvm.ClassFile.FieldType.int)) ∈ lw_G := lw_mem 622 (by decide +kernel) (by decide +kernel)
theorem g_623 : (Jvm.Cond.methodLink "ToldRowsLaw" (108 : Nat) ({ cls := "ToldRowsModel", name := "last", desc := "(III)I" } : Jvm.MethodName)) ∈ lw_G := lw_mem 623 (by decide +kernel) (by decide +kernel)
theorem g_624 : (Jvm.Cond.instanceMethod ({ cls := "ToldRowsModel", name := "last", desc := "(III)I" } : Jvm.MethodName)) ∈ lw_G := lw_mem 624 (by decide +kernel) (by decide +kernel)
theorem g_625 : (Jvm.Cond.selects "ToldRowsModel" ({ cls := "ToldRowsModel", name := "last", desc := "(III)I" } : Jvm.MethodName) ({ cls := "ToldRowsModel", name := "last", desc := "(III)I" } : Jvm.MethodName)) ∈ lw_G := lw_mem 625 (by decide +kernel) (by decide +kernel)
theorem g_626 : (Jvm.Cond.code ({ cls := "ToldRowsModel", name := "last", desc := "(III)I" } : Jvm.MethodName) prog_6_method_25_code (6 : Nat) (Option.some Jvm.ClassFile.FieldType.int)) ∈ lw_G := lw_mem 626 (by decide +kernel) (by decide +kernel)
theorem g_627 : (Jvm.Cond.methodLink "ToldRowsModel" (111 : Nat) ({ cls := "ToldRowsModel", name := "lastOf", desc := "(III)I" } : Jvm.MethodName)) ∈ lw_G := lw_mem 627 (by decide +kernel) (by decide +kernel)
theorem g_629 : (Jvm.Cond.instanceMethod ({ cls := "ToldRowsModel", name := "lastOf", desc := "(III)I" } : Jvm.MethodName)) ∈ lw_G := lw_mem 629 (by decide +kernel) (by decide +kernel)
theorem g_630 : (Jvm.Cond.code ({ cls := "ToldRowsModel", name := "lastOf", desc := "(III)I" } : Jvm.MethodName) prog_6_method_24_code (6 : Nat) (Option.some Jvm.ClassFile.FieldType.int)) ∈ lw_G := lw_mem 630 (by decide +kernel) (by decide +kernel)
theorem g_631 : (Jvm.Cond.methodLink "ToldRowsModel" (105 : Nat) ({ cls := "ToldRowsModel", name := "counts", desc := "(III)Z" } : Jvm.MethodName)) ∈ lw_G := lw_mem 631 (by decide +kernel) (by decide +kernel)
theorem g_633 : (Jvm.Cond.instanceMethod ({ cls := "ToldRowsModel", name := "counts", desc := "(III)Z" } : Jvm.MethodName)) ∈ lw_G := lw_mem 633 (by decide +kernel) (by decide +kernel)
theorem g_634 : (Jvm.Cond.code ({ cls := "ToldRowsModel", name := "counts", desc := "(III)Z" } : Jvm.MethodName) prog_6_method_22_code (7 : Nat) (Option.some Jvm.ClassFile.FieldType.boolean)) ∈ lw_G := lw_mem 634 (by decide +kernel) (by decide +kernel)
theorem g_635 : (Jvm.Cond.methodLink "ToldRowsModel" (108 : Nat) ({ cls := "ToldRowsModel", name := "isLater", desc := "(II)Z" } : Jvm.MethodName)) ∈ lw_G := lw_mem 635 (by decide +kernel) (by decide +kernel)
theorem g_637 : (Jvm.Cond.instanceMethod ({ cls := "ToldRowsModel", name := "isLater", desc := "(II)Z" } : Jvm.MethodName)) ∈ lw_G := lw_mem 637 (by decide +kernel) (by decide +kernel)
theorem g_638 : (Jvm.Cond.code ({ cls := "ToldRowsModel", name := "isLater", desc := "(II)Z" } : Jvm.MethodName) prog_6_method_23_code (5 : Nat) (Option.some Jvm.ClassFile.FieldType.boolean)) ∈ lw_G := lw_mem 638 (by decide +kernel) (by decide +kernel)
theorem g_639 : (Jvm.Cond.methodLink "ToldRowsLaw" (111 : Nat) ({ cls := "ToldRowsModel", name := "known", desc := "(III)I" } : Jvm.MethodName)) ∈ lw_G := lw_mem 639 (by decide +kernel) (by decide +kernel)
theorem g_640 : (Jvm.Cond.instanceMethod ({ cls := "ToldRowsModel", name := "known", desc := "(III)I" } : Jvm.MethodName)) ∈ lw_G := lw_mem 640 (by decide +kernel) (by decide +kernel)
theorem g_641 : (Jvm.Cond.selects "ToldRowsModel" ({ cls := "ToldRowsModel", name := "known", desc := "(III)I" } : Jvm.MethodName) ({ cls := "ToldRowsModel", name := "known", desc := "(III)I" } : Jvm.MethodName)) ∈ lw_G := lw_mem 641 (by decide +kernel) (by decide +kernel)
theorem g_642 : (Jvm.Cond.code ({ cls := "ToldRowsModel", name := "known", desc := "(III)I" } : Jvm.MethodName) prog_6_method_26_code (7 : Nat) (Option.some Jvm.ClassFile.FieldType.int)) ∈ lw_G := lw_mem 642 (by decide +kernel) (by decide +kernel)
theorem g_643 : (Jvm.Cond.methodLink "ToldRowsLaw" (114 : Nat) ({ cls := "ToldRowsModel", name := "many", desc := "(II)I" } : Jvm.MethodName)) ∈ lw_G := lw_mem 643 (by decide +kernel) (by decide +kernel)
theorem g_644 : (Jvm.Cond.instanceMethod ({ cls := "ToldRowsModel", name := "many", desc := "(II)I" } : Jvm.MethodName)) ∈ lw_G := lw_mem 644 (by decide +kernel) (by decide +kernel)
theorem g_645 : (Jvm.Cond.selects "ToldRowsModel" ({ cls := "ToldRowsModel", name := "many", desc := "(II)I" } : Jvm.MethodName) ({ cls := "ToldRowsModel", name := "many", desc := "(II)I" } : Jvm.MethodName)) ∈ lw_G := lw_mem 645 (by decide +kernel) (by decide +kernel)
theorem g_646 : (Jvm.Cond.code ({ cls := "ToldRowsModel", name := "many", desc := "(II)I" } : Jvm.MethodName) prog_6_method_27_code (5 : Nat) (Option.some Jvm.ClassFile.FieldType.int)) ∈ lw_G := lw_mem 646 (by decide +kernel) (by decide +kernel)
theorem g_647 : (Jvm.Cond.methodLink "ToldRowsLaw" (117 : Nat) ({ cls := "ToldRowsModel", name := "gap", desc := "(III)I" } : Jvm.MethodName)) ∈ lw_G := lw_mem 647 (by decide +kernel) (by decide +kernel)
theorem g_648 : (Jvm.Cond.instanceMethod ({ cls := "ToldRowsModel", name := "gap", desc := "(III)I" } : Jvm.MethodName)) ∈ lw_G := lw_mem 648 (by decide +kernel) (by decide +kernel)
theorem g_649 : (Jvm.Cond.selects "ToldRowsModel" ({ cls := "ToldRowsModel", name := "gap", desc := "(III)I" } : Jvm.MethodName) ({ cls := "ToldRowsModel", name := "gap", desc := "(III)I" } : Jvm.MethodName)) ∈ lw_G := lw_mem 649 (by decide +kernel) (by decide +kernel)
theorem g_650 : (Jvm.Cond.code ({ cls := "ToldRowsModel", name := "gap", desc := "(III)I" } : Jvm.MethodName) prog_6_method_29_code (8 : Nat) (Option.some Jvm.ClassFile.FieldType.int)) ∈ lw_G := lw_mem 650 (by decide +kernel) (by decide +kernel)
theorem g_651 : (Jvm.Cond.methodLink "ToldRowsModel" (115 : Nat) ({ cls := "ToldRowsModel", name := "hasNumber", desc := "(III)Z" } : Jvm.MethodName)) ∈ lw_G := lw_mem 651 (by decide +kernel) (by decide +kernel)
theorem g_653 : (Jvm.Cond.instanceMethod ({ cls := "ToldRowsModel", name := "hasNumber", desc := "(III)Z" } : Jvm.MethodName)) ∈ lw_G := lw_mem 653 (by decide +kernel) (by decide +kernel)
theorem g_654 : (Jvm.Cond.code ({ cls := "ToldRowsModel", name := "hasNumber", desc := "(III)Z" } : Jvm.MethodName) prog_6_method_28_code (6 : Nat) (Option.some Jvm.ClassFile.FieldType.boolean)) ∈ lw_G := lw_mem 654 (by decide +kernel) (by decide +kernel)
theorem g_655 : (Jvm.Cond.constantLong "ToldRowsLaw" (80 : Nat) (4294967295 : Int64)) ∈ lw_G := lw_mem 655 (by decide +kernel) (by decide +kernel)
theorem g_656 : (Jvm.Cond.arrayClass Jvm.ClassFile.FieldType.long) ∈ lw_G := lw_mem 656 (by decide +kernel) (by decide +kernel)
