section
-- ===== PART A: goes FIRST, ahead of the names: the tables' words, and 'selects' of the private methods out of them =====
/-- a private method of a class that the tables say can be made, by its rows of tables_1 -/
def lw_okq (q : MethodName × Nat) : Prop := (q.1.cls ≠ "java/lang/invoke/MethodHandle" ∧ q.1.cls ≠ "java/lang/invoke/VarHandle") ∧ Cond.instantiable q.1.cls q.2 ∈ tables_1 ∧ Cond.privateMethod q.1 ∈ tables_1 ∧ Cond.instanceMethod q.1 ∈ tables_1
theorem lw_p0 : lw_okq (⟨"java/lang/Throwable", "fillInStackTrace", "(I)Ljava/lang/Throwable;"⟩, 6) := ⟨⟨by decide +kernel, by decide +kernel⟩, List.mem_of_getElem? (i := 165) (by decide +kernel), List.mem_of_getElem? (i := 163) (by decide +kernel), List.mem_of_getElem? (i := 164) (by decide +kernel)⟩
theorem lw_p1 : lw_okq (⟨"ToldRows", "hasRival", "(LToldRows$Desk;I)Z"⟩, 4) := ⟨⟨by decide +kernel, by decide +kernel⟩, List.mem_of_getElem? (i := 15) (by decide +kernel), List.mem_of_getElem? (i := 316) (by decide +kernel), List.mem_of_getElem? (i := 317) (by decide +kernel)⟩
theorem lw_p2 : lw_okq (⟨"ToldRows", "beginsConflict", "(LToldRows$Desk;I)Z"⟩, 4) := ⟨⟨by decide +kernel, by decide +kernel⟩, List.mem_of_getElem? (i := 15) (by decide +kernel), List.mem_of_getElem? (i := 374) (by decide +kernel), List.mem_of_getElem? (i := 375) (by decide +kernel)⟩
theorem lw_p3 : lw_okq (⟨"ToldRows", "findLast", "(LToldRows$Desk;II)I"⟩, 4) := ⟨⟨by decide +kernel, by decide +kernel⟩, List.mem_of_getElem? (i := 15) (by decide +kernel), List.mem_of_getElem? (i := 410) (by decide +kernel), List.mem_of_getElem? (i := 411) (by decide +kernel)⟩
theorem lw_p4 : lw_okq (⟨"ToldRows", "isLater", "(II)Z"⟩, 4) := ⟨⟨by decide +kernel, by decide +kernel⟩, List.mem_of_getElem? (i := 15) (by decide +kernel), List.mem_of_getElem? (i := 425) (by decide +kernel), List.mem_of_getElem? (i := 426) (by decide +kernel)⟩
theorem lw_p5 : lw_okq (⟨"ToldRows", "realTimeOf", "(I)I"⟩, 4) := ⟨⟨by decide +kernel, by decide +kernel⟩, List.mem_of_getElem? (i := 15) (by decide +kernel), List.mem_of_getElem? (i := 429) (by decide +kernel), List.mem_of_getElem? (i := 430) (by decide +kernel)⟩
theorem lw_p6 : lw_okq (⟨"ToldRows", "countsBy", "(LToldRows$Desk;II)Z"⟩, 4) := ⟨⟨by decide +kernel, by decide +kernel⟩, List.mem_of_getElem? (i := 15) (by decide +kernel), List.mem_of_getElem? (i := 451) (by decide +kernel), List.mem_of_getElem? (i := 452) (by decide +kernel)⟩
theorem lw_p7 : lw_okq (⟨"ToldRows", "hear", "(LToldRows$Desk;I)I"⟩, 4) := ⟨⟨by decide +kernel, by decide +kernel⟩, List.mem_of_getElem? (i := 15) (by decide +kernel), List.mem_of_getElem? (i := 481) (by decide +kernel), List.mem_of_getElem? (i := 482) (by decide +kernel)⟩
theorem lw_p8 : lw_okq (⟨"ToldRowsModel", "throwing", "(ZZZZ)Z"⟩, 16) := ⟨⟨by decide +kernel, by decide +kernel⟩, List.mem_of_getElem? (i := 488) (by decide +kernel), List.mem_of_getElem? (i := 558) (by decide +kernel), List.mem_of_getElem? (i := 559) (by decide +kernel)⟩
theorem lw_p9 : lw_okq (⟨"ToldRowsModel", "realOf", "(II)I"⟩, 16) := ⟨⟨by decide +kernel, by decide +kernel⟩, List.mem_of_getElem? (i := 488) (by decide +kernel), List.mem_of_getElem? (i := 566) (by decide +kernel), List.mem_of_getElem? (i := 567) (by decide +kernel)⟩
theorem lw_p10 : lw_okq (⟨"ToldRowsModel", "find", "(IIIII)I"⟩, 16) := ⟨⟨by decide +kernel, by decide +kernel⟩, List.mem_of_getElem? (i := 488) (by decide +kernel), List.mem_of_getElem? (i := 580) (by decide +kernel), List.mem_of_getElem? (i := 581) (by decide +kernel)⟩
theorem lw_p11 : lw_okq (⟨"ToldRowsModel", "has", "(II)Z"⟩, 16) := ⟨⟨by decide +kernel, by decide +kernel⟩, List.mem_of_getElem? (i := 488) (by decide +kernel), List.mem_of_getElem? (i := 584) (by decide +kernel), List.mem_of_getElem? (i := 585) (by decide +kernel)⟩
theorem lw_p12 : lw_okq (⟨"ToldRowsModel", "areRivals", "(II)Z"⟩, 16) := ⟨⟨by decide +kernel, by decide +kernel⟩, List.mem_of_getElem? (i := 488) (by decide +kernel), List.mem_of_getElem? (i := 588) (by decide +kernel), List.mem_of_getElem? (i := 589) (by decide +kernel)⟩
theorem lw_p13 : lw_okq (⟨"ToldRowsModel", "comes", "(II)V"⟩, 16) := ⟨⟨by decide +kernel, by decide +kernel⟩, List.mem_of_getElem? (i := 488) (by decide +kernel), List.mem_of_getElem? (i := 592) (by decide +kernel), List.mem_of_getElem? (i := 593) (by decide +kernel)⟩
theorem lw_p14 : lw_okq (⟨"ToldRowsModel", "sees", "(III)Z"⟩, 16) := ⟨⟨by decide +kernel, by decide +kernel⟩, List.mem_of_getElem? (i := 488) (by decide +kernel), List.mem_of_getElem? (i := 612) (by decide +kernel), List.mem_of_getElem? (i := 613) (by decide +kernel)⟩
theorem lw_p15 : lw_okq (⟨"ToldRowsModel", "lastOf", "(III)I"⟩, 16) := ⟨⟨by decide +kernel, by decide +kernel⟩, List.mem_of_getElem? (i := 488) (by decide +kernel), List.mem_of_getElem? (i := 628) (by decide +kernel), List.mem_of_getElem? (i := 629) (by decide +kernel)⟩
def lw_privs_1 : List (MethodName × Nat) := [(⟨"java/lang/Throwable", "fillInStackTrace", "(I)Ljava/lang/Throwable;"⟩, 6), (⟨"ToldRows", "hasRival", "(LToldRows$Desk;I)Z"⟩, 4), (⟨"ToldRows", "beginsConflict", "(LToldRows$Desk;I)Z"⟩, 4), (⟨"ToldRows", "findLast", "(LToldRows$Desk;II)I"⟩, 4), (⟨"ToldRows", "isLater", "(II)Z"⟩, 4), (⟨"ToldRows", "realTimeOf", "(I)I"⟩, 4), (⟨"ToldRows", "countsBy", "(LToldRows$Desk;II)Z"⟩, 4), (⟨"ToldRows", "hear", "(LToldRows$Desk;I)I"⟩, 4), (⟨"ToldRowsModel", "throwing", "(ZZZZ)Z"⟩, 16), (⟨"ToldRowsModel", "realOf", "(II)I"⟩, 16), (⟨"ToldRowsModel", "find", "(IIIII)I"⟩, 16), (⟨"ToldRowsModel", "has", "(II)Z"⟩, 16), (⟨"ToldRowsModel", "areRivals", "(II)Z"⟩, 16), (⟨"ToldRowsModel", "comes", "(II)V"⟩, 16), (⟨"ToldRowsModel", "sees", "(III)Z"⟩, 16), (⟨"ToldRowsModel", "lastOf", "(III)I"⟩, 16)]
theorem lw_r1 : ∀ q ∈ lw_privs_1, lw_okq q := List.forall_mem_cons.mpr ⟨lw_p0, List.forall_mem_cons.mpr ⟨lw_p1, List.forall_mem_cons.mpr ⟨lw_p2, List.forall_mem_cons.mpr ⟨lw_p3, List.forall_mem_cons.mpr ⟨lw_p4, List.forall_mem_cons.mpr ⟨lw_p5, List.forall_mem_cons.mpr ⟨lw_p6, List.forall_mem_cons.mpr ⟨lw_p7, List.forall_mem_cons.mpr ⟨lw_p8, List.forall_mem_cons.mpr ⟨lw_p9, List.forall_mem_cons.mpr ⟨lw_p10, List.forall_mem_cons.mpr ⟨lw_p11, List.forall_mem_cons.mpr ⟨lw_p12, List.forall_mem_cons.mpr ⟨lw_p13, List.forall_mem_cons.mpr ⟨lw_p14, List.forall_mem_cons.mpr ⟨lw_p15, fun _ h => absurd h List.not_mem_nil⟩⟩⟩⟩⟩⟩⟩⟩⟩⟩⟩⟩⟩⟩⟩⟩
theorem lw_p16 : lw_okq (⟨"ToldRowsModel", "counts", "(III)Z"⟩, 16) := ⟨⟨by decide +kernel, by decide +kernel⟩, List.mem_of_getElem? (i := 488) (by decide +kernel), List.mem_of_getElem? (i := 632) (by decide +kernel), List.mem_of_getElem? (i := 633) (by decide +kernel)⟩
theorem lw_p17 : lw_okq (⟨"ToldRowsModel", "isLater", "(II)Z"⟩, 16) := ⟨⟨by decide +kernel, by decide +kernel⟩, List.mem_of_getElem? (i := 488) (by decide +kernel), List.mem_of_getElem? (i := 636) (by decide +kernel), List.mem_of_getElem? (i := 637) (by decide +kernel)⟩
theorem lw_p18 : lw_okq (⟨"ToldRowsModel", "hasNumber", "(III)Z"⟩, 16) := ⟨⟨by decide +kernel, by decide +kernel⟩, List.mem_of_getElem? (i := 488) (by decide +kernel), List.mem_of_getElem? (i := 652) (by decide +kernel), List.mem_of_getElem? (i := 653) (by decide +kernel)⟩
def lw_privs_2 : List (MethodName × Nat) := [(⟨"ToldRowsModel", "counts", "(III)Z"⟩, 16), (⟨"ToldRowsModel", "isLater", "(II)Z"⟩, 16), (⟨"ToldRowsModel", "hasNumber", "(III)Z"⟩, 16)]
theorem lw_r2 : ∀ q ∈ lw_privs_2, lw_okq q := List.forall_mem_cons.mpr ⟨lw_p16, List.forall_mem_cons.mpr ⟨lw_p17, List.forall_mem_cons.mpr ⟨lw_p18, fun _ h => absurd h List.not_mem_nil⟩⟩⟩
def lw_privs : List (MethodName × Nat) := lw_privs_1 ++ (lw_privs_2)
def lw_tbl : List Cond := k2_sels lw_privs ++ tables_1
theorem lw_privs_ok : ∀ q ∈ lw_privs, lw_okq q := by
  show ∀ q ∈ lw_privs_1 ++ (lw_privs_2), lw_okq q
  exact List.forall_mem_append.mpr ⟨lw_r1, lw_r2⟩
/-! ===== BEGIN words of one list among another's, by their places ===== -/
theorem goodIn_r {big : List Cond} (ws : List Cond) (ps : List Nat) (hp : ws = ps.filterMap (fun i => big[i]?)) (h : ws.all goodWord = true) : GoodIn big ws := by
  intro w hw
  have h1 := List.all_eq_true.mp h w hw
  rw [hp] at hw
  obtain ⟨i, -, hi⟩ := List.mem_filterMap.mp hw
  have hm : w ∈ big := by first | exact List.mem_of_getElem? hi | exact List.getElem?_mem hi
  exact ⟨hm, good_of_word h1⟩
theorem goodIn_app {big a b : List Cond} (ha : GoodIn big a) (hb : GoodIn big b) : GoodIn big (a ++ b) := fun w h => (List.mem_append.mp h).elim (ha w) (hb w)
theorem goodIn_ca {big a b : List Cond} {c : Cond} (ha : GoodIn big (c :: a)) (hb : GoodIn big b) : GoodIn big (c :: (a ++ b)) := fun w h => (List.mem_cons.mp h).elim (fun e => ha w (List.mem_cons.mpr (Or.inl e))) (fun h => (List.mem_append.mp h).elim (fun h => ha w (List.mem_cons.mpr (Or.inr h))) (hb w))
theorem goodIn_sub {big ws : List Cond} (hm : ∀ w ∈ ws, w ∈ big) (h : ws.all goodWord = true) : GoodIn big ws := fun w hw => ⟨hm w hw, good_of_word (List.all_eq_true.mp h w hw)⟩
/-! ===== END ===== -/

/-! ===== BEGIN exceptions that leave a method, and their catching by the caller (launches without stack traces) ===== -/
section VXA
/-! The laws vx_back, vx_callV, vx_callS, vx_callSW, vx_throw0, vx_throwS follow proofs of the library, with one case more: JvmDerived/Free/Laws.lean (Back.of_free), Shelf42/LK1.lean (callV, callS), Shelf/KitTraced.lean (throwNew0V, throwNewS). -/
/-- where a method has thrown q: the class by its name, the cell, what was written, the world -/
def vx_T (XC : String → State → State → Prop) (st : State) (q : Addr) (t : State) (mc ms : Nat) (free : Addr → Prop) : Prop :=
  ∃ (E : String) (ce : Cell) (L : List Loc), XC E st t ∧ t.heap[q]? = some ce ∧ ce.vm = .none ∧ st.vm.findClass E = some ce.cls ∧ st.WarmedH t.vm ∧ st.sameButNew ({ t with vm := st.vm } : State) L mc ms ∧ ∀ z ∈ L, free z.base
def vx_Q (Qc : Array Value → State → Outcome → State → Prop) (XC : String → State → State → Prop) (mc ms : Nat) (free : Addr → Prop) : Array Value → State → Outcome → State → Prop := fun a st o t =>
  (Qc a st o t ∧ ∃ L, FrameEnd st o t L mc ms ∧ ∀ q ∈ L, free q.base) ∨ ∃ q, o = .threw q ∧ vx_T XC st q t mc ms free
/-- a callee that returns or throws -/
def vx_Met (l : Launch) (y : MethodName) (ws : List Cond) (rm : Room) (Pc : Array Value → State → Prop) (Qc : Array Value → State → Outcome → State → Prop) (XC : String → State → State → Prop) (mc ms : Nat) (free : Addr → Prop) : Prop :=
  MetFree l y (headSpec ws rm) Pc (fun _ _ _ _ _ => True) (vx_Q Qc XC mc ms free)
def vx_Post (XC : String → State → State → Prop) (mc ms : Nat) (free : Addr → Prop) : Pt → Array Value → Addr → Pt → Prop := fun A a q B =>
  ∃ (g : JFrame) (mk : MethodId) (t : State) (L : List Loc) (E : String) (ce : Cell), B.U.heap = t.heap ∧ B.U.vm = t.vm ∧ XC E (A.U.calling g mk a) t ∧ t.heap[q]? = some ce ∧ ce.vm = .none ∧ A.U.vm.findClass E = some ce.cls ∧ B.locs = A.locs ++ L ∧ (∀ z ∈ L, free z.base) ∧ B.cells = A.cells + mc ∧ B.slots = A.slots + ms
def vx_Back (l : Launch) (R : Room) (p : Program) (e : Env) (below : List Frame) (s : State) (sargs : Array Value) (y : MethodName) (len W9 : Nat)
    (Pre : Pt → Array Value → Prop) (Post : Pt → Array Value → Option Value → Pt → Prop) (PostX : Pt → Array Value → Addr → Pt → Prop) : Prop :=
  ∀ (m : MethodId) (meth : Method) (c : Code) (A : Pt) (g : JFrame) (ig : Instr) (mk : MethodId) (a : Array Value),
    Stand p l e R s m sargs below meth c A.U A.locs A.cells A.slots → g.method = m → g.locals.size = c.maxLocals → decode c.code g.pc = .ok (ig, len) →
    2 * g.monitorRoom + (g.stack.map fun v => v.category).sum ≤ W9 → A.U.methodNamed? y = some mk → Pre A a →
    (∃ (v : Option Value) (B : Pt), Stand p l e R s m sargs below meth c B.U B.locs B.cells B.slots ∧ Post A a v B ∧
      Steps p.tables e below (doInvoke e (A.U.setTop g) [] mk a).1 (B.U.setTop { g with pc := g.pc + len, stack := v.toList ++ g.stack })) ∨
    (∃ (q : Addr) (B : Pt), Stand p l e R s m sargs below meth c B.U B.locs B.cells B.slots ∧ PostX A a q B ∧
      Steps p.tables e below (doInvoke e (A.U.setTop g) [] mk a).1 ((B.U.setTop g).pushFrame (.throwing q)))
section Payer
variable {l : Launch} {R : Room} {p : Program} {e : Env} {below : List Frame} {s : State} {sargs : Array Value} {y : MethodName} {len W9 : Nat}
theorem vx_back {ws : List Cond} {rm : Room} {Pc : Array Value → State → Prop} {Qc : Array Value → State → Outcome → State → Prop} {XC : String → State → State → Prop} {mc ms : Nat} {free : Addr → Prop} {bytes : ByteArray} {maxL : Nat} {ret : Option FieldType}
    (hM : vx_Met l y ws rm Pc Qc XC mc ms free) (hblind : FrameBlind Pc) (hrc : rm.cells = mc) (hrs : rm.slots = ms)
    (hframes : rm.frames + 1 ≤ R.frames) (hlocals : W9 + (maxL + 11) + rm.locals ≤ R.locals)
    (hws : ∀ w ∈ ws, ∀ a' U, s.WarmedH U.vm → w.before a' U = true) (hcode : Cond.code y bytes maxL ret ∈ ws) (hinit : ∀ a' U, s.WarmedH U.vm → (Cond.initialized y.cls).before a' U = true) :
    vx_Back l R p e below s sargs y len W9 (PreOf R mc ms Pc) (PostOf Qc mc ms free) (vx_Post XC mc ms free) := by
  intro m meth c A g ig mk a X hg hsize hdg hW hn hp
  have h1 : (headSpec ws rm).pre.before a A.U = true := atoms_intro fun w hw => hws w hw _ _ X.warmed
  have h2 : (Cond.code y bytes maxL ret).before a A.U = true := hws _ hcode _ _ X.warmed
  have h3 : (Cond.initialized y.cls).before a A.U = true := hinit _ _ X.warmed
  have h4 : A.cells + (headSpec ws rm).room.cells ≤ R.cells := by rw [show (headSpec ws rm).room.cells = mc from hrc]; exact hp.1
  have h5 : A.slots + (headSpec ws rm).room.slots ≤ R.slots := by rw [show (headSpec ws rm).room.slots = ms from hrs]; exact hp.2.1
  have hPc : Pc a (A.U.calling g mk a) := hblind _ _ _ _ hp.2.2
  obtain ⟨U, Ls, c0, s0⟩ := A
  dsimp only [Pt.U, Pt.locs, Pt.cells, Pt.slots] at h1 h2 h3 h4 h5 X hn hPc ⊢
  obtain ⟨methY, cY, hmY, hcY, -, hlY, -, -, -, -⟩ := Cond.code_spec hn h2
  obtain ⟨kY, hkY, -⟩ := className_of_methodNamed hn
  have hinitY : kY.init = .initialized := Cond.initialized_spec (findClass_of_methodNamed hn) hkY h3
  have h : At U g.method c below := by rw [hg]; exact X.here
  have hlocals9 : W9 + (maxL + 11) + (headSpec ws rm).room.locals ≤ R.locals := hlocals
  have happ : (headSpec ws rm).appliesLoose y e.platform (U.calling g mk a) = true :=
    Spec.appliesLoose_calling (g := g) h hdg hn hkY hinitY
      (X.room_calling (g := g) (R' := (headSpec ws rm).room) hsize hmY hcY hframes (by rw [hlY]; omega) h4 h5) h1
  obtain ⟨mid, hmid⟩ := h.above
  have hfr : (U.setTop g).frames = (.java g :: mid) ++ below := by rw [State.frames_setTop' g h.top, hmid]; rfl
  obtain ⟨o, s₂, hsteps, -, hend, hq⟩ := Steps.callFree hM p X.admits X.cas X.clock (acts := []) hfr happ hPc trivial
  have hq' : vx_Q Qc XC mc ms free a (U.calling g mk a) o s₂ := hq
  rw [State.frames_setTop' g h.top] at hend
  obtain ⟨g₀, hg0⟩ := Option.isSome_iff_exists.mp h.top
  obtain ⟨r, hr⟩ := State.topJava?_eq_some.mp hg0
  have hr' : (({ U with heap := s₂.heap, slotsUsed := s₂.slotsUsed } : State).setVm s₂.vm).frames = .java g₀ :: r := hr
  rcases hq' with ⟨hqc, L, hfe, hL⟩ | ⟨q, rfl, E, ce, L, hx, hce, hcv, hcl, hW₂, hsm, hL⟩
  · obtain ⟨⟨v, rfl⟩, hW₂, e2, q2, q3, q4, q5, q6⟩ := id hfe
    have e3 : s₂ = ({ (U.calling g mk a).setFrames s₂.frames with heap := s₂.heap, slotsUsed := s₂.slotsUsed } : State).setVm s₂.vm := by
      have : s₂ = ({ s₂ with vm := (U.calling g mk a).vm } : State).setVm s₂.vm := rfl
      rw [e2] at this
      exact this
    obtain ⟨c₂, i₂, len₂, hc₂, hd₂, hf₂⟩ := hend
    have hW' : U.WarmedH s₂.vm := hW₂
    have hcc : c₂ = c := by
      have h1 : s₂.code? g.method = U.code? g.method := by
        rw [State.code?_eq, State.code?_eq, hW'.alike.method?]
      exact Option.some.inj (hc₂.symm.trans (h1.trans h.code))
    subst hcc
    have hlen : len₂ = len := by rw [hdg] at hd₂; cases hd₂; rfl
    subst hlen
    have hs₂ : s₂ = (({ U with heap := s₂.heap, slotsUsed := s₂.slotsUsed } : State).setVm s₂.vm).setTop { g with pc := g.pc + len₂, stack := v.toList ++ g.stack } := by
      refine e3.trans ?_
      rw [hf₂, State.calling_eq h.top, State.setFrames_setFrames, State.setTop_of_frames _ hr', hr]
      rfl
    have hsame : U.sameButNew ({ U with heap := s₂.heap, slotsUsed := s₂.slotsUsed } : State) L mc ms := by
      refine ⟨?_, q2, q3, q4, q5, q6⟩
      obtain ⟨t, ht, -⟩ := State.frames_cons hr
      show ({ U with heap := s₂.heap, slotsUsed := s₂.slotsUsed } : State) = { U.setFrames U.frames with heap := s₂.heap, slotsUsed := s₂.slotsUsed }
      rw [State.setFrames_self ht]
    subst hg
    refine Or.inl ⟨v, ⟨(({ U with heap := s₂.heap, slotsUsed := s₂.slotsUsed } : State).setVm s₂.vm), Ls ++ L, c0 + mc, s0 + ms⟩,
      ⟨X.admits, X.cas, X.clock, X.frames, X.room, X.hears, X.method, X.code, (X.here.setHeapUsed s₂.heap s₂.slotsUsed).setVm hW'.alike, X.tail, State.WarmedH.trans X.warmed hW', X.limits, X.bytes, X.same.trans (hsame.setVm s.vm)⟩,
      ⟨g, mk, s₂, L, rfl, rfl, hqc, rfl, hL, rfl, rfl⟩, ?_⟩
    show Steps p.tables e below _ ((({ U with heap := s₂.heap, slotsUsed := s₂.slotsUsed } : State).setVm s₂.vm).setTop { g with pc := g.pc + len₂, stack := v.toList ++ g.stack })
    rw [← hs₂]
    exact hsteps
  · obtain ⟨e2, q2, q3, q4, q5, q6⟩ := id hsm
    have e3 : s₂ = ({ (U.calling g mk a).setFrames s₂.frames with heap := s₂.heap, slotsUsed := s₂.slotsUsed } : State).setVm s₂.vm := by
      have : s₂ = ({ s₂ with vm := (U.calling g mk a).vm } : State).setVm s₂.vm := rfl
      rw [e2] at this
      exact this
    have hf₂ : s₂.frames = .throwing q :: .java g :: U.frames.tail := hend
    have hW' : U.WarmedH s₂.vm := hW₂
    have hs₂ : s₂ = ((({ U with heap := s₂.heap, slotsUsed := s₂.slotsUsed } : State).setVm s₂.vm).setTop g).pushFrame (.throwing q) := by
      refine e3.trans ?_
      rw [hf₂, State.calling_eq h.top, State.setFrames_setFrames, State.pushFrame, State.frames_setTop _ hr', State.setTop_of_frames _ hr', State.setFrames_setFrames, hr]
      rfl
    have hsame : U.sameButNew ({ U with heap := s₂.heap, slotsUsed := s₂.slotsUsed } : State) L mc ms := by
      refine ⟨?_, q2, q3, q4, q5, q6⟩
      obtain ⟨t, ht, -⟩ := State.frames_cons hr
      show ({ U with heap := s₂.heap, slotsUsed := s₂.slotsUsed } : State) = { U.setFrames U.frames with heap := s₂.heap, slotsUsed := s₂.slotsUsed }
      rw [State.setFrames_self ht]
    subst hg
    refine Or.inr ⟨q, ⟨(({ U with heap := s₂.heap, slotsUsed := s₂.slotsUsed } : State).setVm s₂.vm), Ls ++ L, c0 + mc, s0 + ms⟩,
      ⟨X.admits, X.cas, X.clock, X.frames, X.room, X.hears, X.method, X.code, (X.here.setHeapUsed s₂.heap s₂.slotsUsed).setVm hW'.alike, X.tail, State.WarmedH.trans X.warmed hW', X.limits, X.bytes, X.same.trans (hsame.setVm s.vm)⟩,
      ⟨g, mk, s₂, L, E, ce, rfl, rfl, hx, hce, hcv, hcl, rfl, hL, rfl, rfl⟩, ?_⟩
    show Steps p.tables e below _ (((({ U with heap := s₂.heap, slotsUsed := s₂.slotsUsed } : State).setVm s₂.vm).setTop g).pushFrame (.throwing q))
    rw [← hs₂]
    exact hsteps
end Payer
section Calls
variable {p : Program} {l : Launch} {e : Env} {R : Room} {s : State} {m : MethodId} {args : Array Value} {below : List Frame} {meth : Method} {c : Code} {T : State} {locs : List Loc} {cells slots : Nat}
theorem vx_callV (X : Stand p l e R s m args below meth c T locs cells slots) (hexec : p.tables.exec = Jvm.exec) {own C : String} {index : Nat} {y : MethodName} {bytes : ByteArray} {maxL : Nat} {ret : Option FieldType}
    (hown : s.vm.findClass own = some m.cls) (hlink : (Cond.methodLink own index y).before args s = true) (hinst : (Cond.instanceMethod y).before args s = true) (hsel : (Cond.selects C y y).before args s = true)
    (hcode : (Cond.code y bytes maxL ret).before args s = true) (hy : y.cls ≠ "java/lang/invoke/MethodHandle" ∧ y.cls ≠ "java/lang/invoke/VarHandle")
    {W9 : Nat} {Pre : Pt → Array Value → Prop} {Post : Pt → Array Value → Option Value → Pt → Prop} {PostX : Pt → Array Value → Addr → Pt → Prop} (hK : vx_Back l R p e below s args y 3 W9 Pre Post PostX)
    {b : Addr} {cellB : Cell} (hcell : T.heap[b]? = some cellB) (hobj : cellB.vm.isStatics = false) (hcls : s.vm.findClass C = some cellB.cls)
    {g : JFrame} (hg : g.method = m) (hsize : g.locals.size = c.maxLocals) {argsL rest : List Value} (hlen : ∀ sig, parseMethodDescriptor y.desc = some sig → argsL.length = sig.parameters.length)
    (hstack : g.stack = argsL.reverse ++ .ref b :: rest) (hW : 2 * g.monitorRoom + (rest.map fun v => v.category).sum ≤ W9) (hdg : decode c.code g.pc = .ok (.invokevirtual index, 3))
    (hpre : ∀ vm₁, s.WarmedH vm₁ → Pre ⟨T.setVm vm₁, locs, cells, slots⟩ (Value.ref b :: argsL).toArray) :
    (∃ (v : Option Value) (vm₁ : Vm) (B : Pt), s.WarmedH vm₁ ∧ Stand p l e R s m args below meth c B.U B.locs B.cells B.slots ∧ Post ⟨T.setVm vm₁, locs, cells, slots⟩ (Value.ref b :: argsL).toArray v B ∧
      ∀ target, Steps p.tables e below (B.U.setTop { g with pc := g.pc + 3, stack := v.toList ++ rest }) target → Steps p.tables e below (T.setTop g) target) ∨
    (∃ (q : Addr) (vm₁ : Vm) (B : Pt), s.WarmedH vm₁ ∧ Stand p l e R s m args below meth c B.U B.locs B.cells B.slots ∧ PostX ⟨T.setVm vm₁, locs, cells, slots⟩ (Value.ref b :: argsL).toArray q B ∧
      Steps p.tables e below (T.setTop g) ((B.U.setTop { g with stack := rest }).pushFrame (.throwing q))) := by
  obtain ⟨mk, methM, hnamed, hmethM, hstM, habM⟩ := Cond.instanceMethod_spec hinst
  obtain ⟨methM', cM, hmethM', -, -, -, -, -, -, hsigM⟩ := Cond.code_spec hnamed hcode
  cases hmethM.symm.trans hmethM'
  obtain ⟨c2, r2, m2, q1, q2, q3, q4, kP, hkP, hkPi⟩ := Cond.selects_spec hsel
  cases hcls.symm.trans q1
  cases (State.methodFound?_of_named hnamed hy).symm.trans q2
  cases hnamed.symm.trans q3
  have hselP : selectMethod e.platform s.vm cellB.cls mk = .method mk := by rw [Launch.admits_selectMethod X.admits]; exact q4
  obtain ⟨vm₁, X₁, hstep₁⟩ := X.invokevirtual hexec hown hlink hnamed hmethM hstM hkP hkPi hy (a := b) (cell := cellB) hcell
    (fun z h => by rw [h] at hobj; cases hobj) hselP hmethM habM hkP hkPi (g := g) hg (argsL := argsL) (rest := rest) (hlen _ hsigM) hstack hdg
  rcases hK m meth c ⟨T.setVm vm₁, locs, cells, slots⟩ { g with stack := rest } (.invokevirtual index) mk (Value.ref b :: argsL).toArray X₁ hg hsize hdg hW (X₁.named hnamed) (hpre vm₁ X₁.warmed) with ⟨v, B, X', hpost, hsteps⟩ | ⟨q, B, X', hpost, hsteps⟩
  · exact Or.inl ⟨v, vm₁, B, X₁.warmed, X', hpost, fun target h => hstep₁ _ fun acts => by rw [doInvoke_state]; exact hsteps.trans h⟩
  · exact Or.inr ⟨q, vm₁, B, X₁.warmed, X', hpost, hstep₁ _ fun acts => by rw [doInvoke_state]; exact hsteps⟩
theorem vx_callS (X : Stand p l e R s m args below meth c T locs cells slots) (hexec : p.tables.exec = Jvm.exec) {own : String} {index : Nat} {y : MethodName} {bytes : ByteArray} {maxL : Nat} {ret : Option FieldType}
    (hown : s.vm.findClass own = some m.cls) (hlink : (Cond.methodLink own index y).before args s = true) (hstat : (Cond.static y).before args s = true) (hinit : (Cond.initialized y.cls).before args s = true)
    (hcode : (Cond.code y bytes maxL ret).before args s = true) (hy : y.cls ≠ "java/lang/invoke/MethodHandle" ∧ y.cls ≠ "java/lang/invoke/VarHandle")
    {W9 : Nat} {Pre : Pt → Array Value → Prop} {Post : Pt → Array Value → Option Value → Pt → Prop} {PostX : Pt → Array Value → Addr → Pt → Prop} (hK : vx_Back l R p e below s args y 3 W9 Pre Post PostX)
    {g : JFrame} (hg : g.method = m) (hsize : g.locals.size = c.maxLocals) {argsL rest : List Value} (hlen : ∀ sig, parseMethodDescriptor y.desc = some sig → argsL.length = sig.parameters.length)
    (hstack : g.stack = argsL.reverse ++ rest) (hW : 2 * g.monitorRoom + (rest.map fun v => v.category).sum ≤ W9) (hdg : decode c.code g.pc = .ok (.invokestatic index, 3))
    (hpre : ∀ vm₁, s.WarmedH vm₁ → Pre ⟨T.setVm vm₁, locs, cells, slots⟩ argsL.toArray) :
    (∃ (v : Option Value) (vm₁ : Vm) (B : Pt), s.WarmedH vm₁ ∧ Stand p l e R s m args below meth c B.U B.locs B.cells B.slots ∧ Post ⟨T.setVm vm₁, locs, cells, slots⟩ argsL.toArray v B ∧
      ∀ target, Steps p.tables e below (B.U.setTop { g with pc := g.pc + 3, stack := v.toList ++ rest }) target → Steps p.tables e below (T.setTop g) target) ∨
    (∃ (q : Addr) (vm₁ : Vm) (B : Pt), s.WarmedH vm₁ ∧ Stand p l e R s m args below meth c B.U B.locs B.cells B.slots ∧ PostX ⟨T.setVm vm₁, locs, cells, slots⟩ argsL.toArray q B ∧
      Steps p.tables e below (T.setTop g) ((B.U.setTop { g with stack := rest }).pushFrame (.throwing q))) := by
  obtain ⟨mk, hnamed⟩ := Cond.code_named hcode
  obtain ⟨methM, cM, hmethM, -, -, -, -, -, -, hsigM⟩ := Cond.code_spec hnamed hcode
  have hstatic : methM.isStatic = true := Cond.static_spec hnamed hmethM hstat
  obtain ⟨kP, hkP, -⟩ := className_of_methodNamed hnamed
  have hinitP : kP.init = .initialized := Cond.initialized_spec (findClass_of_methodNamed hnamed) hkP hinit
  obtain ⟨vm₁, X₁, hstep₁⟩ := X.invokestatic hexec hown hlink hnamed hmethM hstatic hkP hinitP hy (g := g) hg (argsL := argsL) (rest := rest) (hlen _ hsigM) hstack hdg
  rcases hK m meth c ⟨T.setVm vm₁, locs, cells, slots⟩ { g with stack := rest } (.invokestatic index) mk argsL.toArray X₁ hg hsize hdg hW (X₁.named hnamed) (hpre vm₁ X₁.warmed) with ⟨v, B, X', hpost, hsteps⟩ | ⟨q, B, X', hpost, hsteps⟩
  · exact Or.inl ⟨v, vm₁, B, X₁.warmed, X', hpost, fun target h => hstep₁ _ fun acts => by rw [doInvoke_state]; exact hsteps.trans h⟩
  · exact Or.inr ⟨q, vm₁, B, X₁.warmed, X', hpost, hstep₁ _ fun acts => by rw [doInvoke_state]; exact hsteps⟩
end Calls
theorem vx_cls {s : State} {T : State} {vm₁ : Vm} {E : String} {k : ClassId} (hW : s.WarmedH vm₁) (h : (T.setVm vm₁).vm.findClass E = some k) : s.vm.findClass E = some k := by
  have h1 : vm₁.findClass E = some k := h
  rw [hW.alike.findClass] at h1
  exact h1
/-- the method's frame g, with q thrown over it -/
def vx_W (p : Program) (l : Launch) (e : Env) (R : Room) (s : State) (m : MethodId) (args : Array Value) (below : List Frame) (meth : Method) (c : Code) (H : Heap) (locs : List Loc) (cells slots : Nat) (Q : State → Prop) (g : JFrame) (q : Addr) : Prop :=
  ∀ T : State, T.heap = H → Stand p l e R s m args below meth c T locs cells slots → ∃ t, Steps p.tables e below ((T.setTop g).pushFrame (.throwing q)) t ∧ Q t
def vx_Run (p : Program) (l : Launch) (e : Env) (R : Room) (s : State) (m : MethodId) (args : Array Value) (below : List Frame) (meth : Method) (c : Code) (H : Heap) (locs : List Loc) (cells slots mc ms : Nat) (g : JFrame) (rest : List Value) (Qa : State → Outcome → State → Prop) (XC : String → State → State → Prop) (free : Addr → Prop) : Prop :=
  ∀ T : State, T.heap = H → Stand p l e R s m args below meth c T locs cells slots →
    (∃ (v : Option Value) (st₀ t T' : State) (L : List Loc), st₀.heap = H ∧ Stand p l e R s m args below meth c T' (locs ++ L) (cells + mc) (slots + ms) ∧ (∀ q ∈ L, free q.base) ∧ T'.heap = t.heap ∧ T'.vm = t.vm ∧ Qa st₀ (.returned v) t ∧
      Goes p e below T g T' { g with pc := g.pc + 3, stack := v.toList ++ rest }) ∨
    (∃ (q : Addr) (st₀ t T' : State) (L : List Loc) (E : String) (ce : Cell), st₀.heap = H ∧ Stand p l e R s m args below meth c T' (locs ++ L) (cells + mc) (slots + ms) ∧ (∀ z ∈ L, free z.base) ∧ T'.heap = t.heap ∧ T'.vm = t.vm ∧ XC E st₀ t ∧ t.heap[q]? = some ce ∧ ce.vm = .none ∧ s.vm.findClass E = some ce.cls ∧
      Steps p.tables e below (T.setTop g) ((T'.setTop { g with stack := rest }).pushFrame (.throwing q)))
def vx_X {S : Type} (px : S → Prop) (B : String → S → State → Prop) (A : Nat → Prop) : String → State → State → Prop := fun E st t => ∃ u : S, px u ∧ B E u t ∧ va_F A st t
section Runs
variable {p : Program} {l : Launch} {e : Env} {R : Room} {s : State} {m : MethodId} {args : Array Value} {below : List Frame} {meth : Method} {c : Code} {H : Heap} {locs : List Loc} {cells slots : Nat}
variable {y : MethodName} {bytes cc : ByteArray} {maxL nL mc ms n index : Nat} {ret : Option FieldType} {ws : List Cond} {rm : Room} {Pc : Array Value → State → Prop} {Qc : Array Value → State → Outcome → State → Prop} {XC : String → State → State → Prop} {free : Addr → Prop} {Ts : List Cond} {own C : String} {b : Addr} {As rest : List Value} {g : JFrame}
theorem vx_callBack (cb : CallB R s args own index y bytes maxL ret ws rm mc ms n) (hM : vx_Met l y ws rm Pc Qc XC mc ms free) (hbl : FrameBlind Pc) : vx_Back l R p e below s args y 3 8 (PreOf R mc ms Pc) (PostOf Qc mc ms free) (vx_Post XC mc ms free) := by
  obtain ⟨hrc, hrs, hfr, hlo, hws, hcw, -, hini, -⟩ := cb
  exact vx_back (bytes := bytes) (maxL := maxL) (ret := ret) hM hbl hrc hrs hfr hlo hws hcw (fun a' U hW => word_at hW (Or.inl (by first | rfl | simp [Cond.onTables, Cond.keeps, Cond.steady])) hini)
theorem vx_runV (S : CallFix p m c cc nL s args Ts own) (hM : vx_Met l y ws rm Pc Qc XC mc ms free) (cw : CallW R s args own C index y bytes maxL ret ws rm mc ms n) (hp : PreV s H C b Pc As)
    (hg : g.method = m) (hn : As.length = n) (hsize : g.locals.size = nL) (hstack : g.stack = As.reverse ++ .ref b :: rest) (hW : 2 * g.monitorRoom + (rest.map fun v => v.category).sum ≤ 8) (hdg : decode cc g.pc = .ok (.invokevirtual index, 3)) (hf : cells + mc ≤ R.cells ∧ slots + ms ≤ R.slots) :
    vx_Run p l e R s m args below meth c H locs cells slots mc ms g rest (Qc (Value.ref b :: As).toArray) XC free := by
  have hK : vx_Back l R p e below s args y 3 8 (PreOf R mc ms Pc) (PostOf Qc mc ms free) (vx_Post XC mc ms free) := vx_callBack cw.1 hM hp.1
  obtain ⟨⟨-, -, -, -, -, -, hcode, -, hy, hlen, hl⟩, hin, hse⟩ := cw
  obtain ⟨hx, hb, hml, ho, -⟩ := S
  obtain ⟨-, ⟨cellB, hcB, hoB, hclB⟩, hPc⟩ := hp
  intro T hT X
  rcases vx_callV X hx (C := C) (bytes := bytes) (maxL := maxL) (ret := ret) ho hl hin hse hcode hy hK (by rw [hT]; exact hcB) hoB hclB hg (hsize.trans hml.symm) (argsL := As) (rest := rest) (fun sig h => hn.trans (hlen sig h)) hstack hW (by rw [hb]; exact hdg)
    (fun vm₁ hW₁ => ⟨hf.1, hf.2, hPc (T.setVm vm₁) hT hW₁⟩) with ⟨v, vm₁, ⟨U', l2, c2, s2⟩, hW₁, X', ⟨g', mk, t, L, e1, e2, hq, h1, hL, h2, h3⟩, st⟩ | ⟨q, vm₁, ⟨U', l2, c2, s2⟩, hW₁, X', ⟨g', mk, t, L, E, ce, e1, e2, hq, hce, hcv, hcl, h1, hL, h2, h3⟩, st⟩
  · dsimp only [Pt.U, Pt.locs, Pt.cells, Pt.slots] at X' e1 e2 h1 h2 h3 st
    subst h1; subst h2; subst h3
    exact Or.inl ⟨v, (T.setVm vm₁).calling g' mk (Value.ref b :: As).toArray, t, U', L, hT, X', hL, e1, e2, hq, st⟩
  · dsimp only [Pt.U, Pt.locs, Pt.cells, Pt.slots] at X' e1 e2 h1 h2 h3 st hcl
    subst h1; subst h2; subst h3
    exact Or.inr ⟨q, (T.setVm vm₁).calling g' mk (Value.ref b :: As).toArray, t, U', L, E, ce, hT, X', hL, e1, e2, hq, hce, hcv, vx_cls hW₁ hcl, st⟩
theorem vx_runS (S : CallFix p m c cc nL s args Ts own) (hM : vx_Met l y ws rm Pc Qc XC mc ms free) (cw : CallB R s args own index y bytes maxL ret ws rm mc ms n ∧ (Cond.static y).before args s = true) (hp : PreS s H Pc As)
    (hg : g.method = m) (hn : As.length = n) (hsize : g.locals.size = nL) (hstack : g.stack = As.reverse ++ rest) (hW : 2 * g.monitorRoom + (rest.map fun v => v.category).sum ≤ 8) (hdg : decode cc g.pc = .ok (.invokestatic index, 3)) (hf : cells + mc ≤ R.cells ∧ slots + ms ≤ R.slots) :
    vx_Run p l e R s m args below meth c H locs cells slots mc ms g rest (Qc As.toArray) XC free := by
  have hK : vx_Back l R p e below s args y 3 8 (PreOf R mc ms Pc) (PostOf Qc mc ms free) (vx_Post XC mc ms free) := vx_callBack cw.1 hM hp.1
  obtain ⟨⟨-, -, -, -, -, -, hcode, hini, hy, hlen, hl⟩, hstt⟩ := cw
  obtain ⟨hx, hb, hml, ho, -⟩ := S
  intro T hT X
  rcases vx_callS X hx (bytes := bytes) (maxL := maxL) (ret := ret) ho hl hstt hini hcode hy hK hg (hsize.trans hml.symm) (argsL := As) (rest := rest) (fun sig h => hn.trans (hlen sig h)) hstack hW (by rw [hb]; exact hdg)
    (fun vm₁ hW₁ => ⟨hf.1, hf.2, hp.2 (T.setVm vm₁) hT hW₁⟩) with ⟨v, vm₁, ⟨U', l2, c2, s2⟩, hW₁, X', ⟨g', mk, t, L, e1, e2, hq, h1, hL, h2, h3⟩, st⟩ | ⟨q, vm₁, ⟨U', l2, c2, s2⟩, hW₁, X', ⟨g', mk, t, L, E, ce, e1, e2, hq, hce, hcv, hcl, h1, hL, h2, h3⟩, st⟩
  · dsimp only [Pt.U, Pt.locs, Pt.cells, Pt.slots] at X' e1 e2 h1 h2 h3 st
    subst h1; subst h2; subst h3
    exact Or.inl ⟨v, (T.setVm vm₁).calling g' mk As.toArray, t, U', L, hT, X', hL, e1, e2, hq, st⟩
  · dsimp only [Pt.U, Pt.locs, Pt.cells, Pt.slots] at X' e1 e2 h1 h2 h3 st hcl
    subst h1; subst h2; subst h3
    exact Or.inr ⟨q, (T.setVm vm₁).calling g' mk As.toArray, t, U', L, E, ce, hT, X', hL, e1, e2, hq, hce, hcv, vx_cls hW₁ hcl, st⟩
end Runs
section Rows
variable {p : Program} {l : Launch} {e : Env} {R : Room} {s : State} {m : MethodId} {args : Array Value} {below : List Frame} {meth : Method} {c : Code} {H : Heap} {locs : List Loc} {cells slots : Nat} {Q : State → Prop}
variable {mc ms : Nat} {free : Addr → Prop} {A0 A1 : Nat → Prop} {H0 : Heap} {a : Array Value} {pc : Nat} {ls : Array Slot} {st0 rest : List Value}
theorem vx_keep {st₀ t T' : State} {L : List Loc} (h0 : st₀.heap = H) (e1 : T'.heap = t.heap) (hS : va_S A0 H0 H locs) (hA : ∀ q, q < H.size → A1 q → A0 q) (hf : ∀ q, free q → A0 q) (hL : ∀ q ∈ L, free q.base) (hF : va_F A1 st₀ t) :
    H.size ≤ T'.heap.size ∧ (∀ q : Nat, q < H.size → ¬ A1 q → T'.heap[q]? = H[q]?) ∧ va_S A0 H0 T'.heap (locs ++ L) := by
  obtain ⟨hz, hk⟩ := hF
  rw [h0] at hz hk
  exact ⟨by rw [e1]; exact hz, fun q h1 h2 => by rw [e1]; exact hk q h1 h2,
    ⟨Nat.le_trans hS.1 (by rw [e1]; exact hz), fun q h1 h2 => by rw [e1, hk q (Nat.lt_of_lt_of_le h1 hS.1) (fun z => h2 (hA q (Nat.lt_of_lt_of_le h1 hS.1) z))]; exact hS.2.1 q h1 h2, fun q hq => by
      rcases List.mem_append.mp hq with h | h
      · exact hS.2.2 q h
      · exact hf _ (hL q h)⟩⟩
theorem vx_calli {S SX : Type} {post : Int32 → S → Prop} {px : SX → Prop} {B : S → State → Prop} {BX : String → SX → State → Prop} {AX : Nat → Prop} (hr : vx_Run p l e R s m args below meth c H locs cells slots mc ms (F0 m pc ls st0) rest (va_Qi post B A1 a) (vx_X px BX AX) free) (hS : va_S A0 H0 H locs) (hA : ∀ q, q < H.size → A1 q → A0 q) (hf : ∀ q, free q → A0 q) (hAX : ∀ q, q < H.size → AX q → A0 q)
    (kx : ∀ (E : String) (ce : Cell) (q9 : Addr) (u : SX) (t : State) (H1 : Heap) (locs1 : List Loc), t.heap = H1 → s.vm.Alike t.vm → px u → BX E u t → H.size ≤ H1.size → (∀ q : Nat, q < H.size → ¬ AX q → H1[q]? = H[q]?) → va_S A0 H0 H1 locs1 → H1[q9]? = some ce → ce.vm = .none → s.vm.findClass E = some ce.cls → vx_W p l e R s m args below meth c H1 locs1 (cells + mc) (slots + ms) Q (F0 m pc ls rest) q9)
    (kk : ∀ (r : Int32) (u : S) (t : State) (H1 : Heap) (locs1 : List Loc), t.heap = H1 → s.vm.Alike t.vm → post r u → B u t → H.size ≤ H1.size → (∀ q : Nat, q < H.size → ¬ A1 q → H1[q]? = H[q]?) → va_S A0 H0 H1 locs1 → W p l e R s m args below meth c H1 locs1 (cells + mc) (slots + ms) Q (F0 m (pc + 3) ls (.int r :: rest))) : W p l e R s m args below meth c H locs cells slots Q (F0 m pc ls st0) := by
  intro T hT X
  rcases hr T hT X with ⟨v, st₀, t, T', L, h0, X', hL, e1, e2, ⟨⟨r, u, hv, hp, hb⟩, hF⟩, st⟩ | ⟨q, st₀, t, T', L, E, ce, h0, X', hL, e1, e2, ⟨u, hp, hb, hF⟩, hce, hcv, hcl, st⟩
  · cases hv
    obtain ⟨k1, k2, k3⟩ := vx_keep h0 e1 hS hA hf hL hF
    obtain ⟨t2, a1, b1⟩ := kk r u t T'.heap (locs ++ L) e1.symm (by rw [← e2]; exact X'.warmed.alike) hp hb k1 k2 k3 T' rfl X'
    exact ⟨t2, st t2 a1, b1⟩
  · obtain ⟨k1, k2, k3⟩ := vx_keep h0 e1 hS hAX hf hL hF
    obtain ⟨t2, a1, b1⟩ := kx E ce q u t T'.heap (locs ++ L) e1.symm (by rw [← e2]; exact X'.warmed.alike) hp hb k1 k2 k3 (by rw [e1]; exact hce) hcv hcl T' rfl X'
    exact ⟨t2, st.trans a1, b1⟩
theorem vx_calll {S SX : Type} {post : Int64 → S → Prop} {px : SX → Prop} {B : S → State → Prop} {BX : String → SX → State → Prop} {AX : Nat → Prop} (hr : vx_Run p l e R s m args below meth c H locs cells slots mc ms (F0 m pc ls st0) rest (va_Ql post B A1 a) (vx_X px BX AX) free) (hS : va_S A0 H0 H locs) (hA : ∀ q, q < H.size → A1 q → A0 q) (hf : ∀ q, free q → A0 q) (hAX : ∀ q, q < H.size → AX q → A0 q)
    (kx : ∀ (E : String) (ce : Cell) (q9 : Addr) (u : SX) (t : State) (H1 : Heap) (locs1 : List Loc), t.heap = H1 → s.vm.Alike t.vm → px u → BX E u t → H.size ≤ H1.size → (∀ q : Nat, q < H.size → ¬ AX q → H1[q]? = H[q]?) → va_S A0 H0 H1 locs1 → H1[q9]? = some ce → ce.vm = .none → s.vm.findClass E = some ce.cls → vx_W p l e R s m args below meth c H1 locs1 (cells + mc) (slots + ms) Q (F0 m pc ls rest) q9)
    (kk : ∀ (r : Int64) (u : S) (t : State) (H1 : Heap) (locs1 : List Loc), t.heap = H1 → s.vm.Alike t.vm → post r u → B u t → H.size ≤ H1.size → (∀ q : Nat, q < H.size → ¬ A1 q → H1[q]? = H[q]?) → va_S A0 H0 H1 locs1 → W p l e R s m args below meth c H1 locs1 (cells + mc) (slots + ms) Q (F0 m (pc + 3) ls (.long r :: rest))) : W p l e R s m args below meth c H locs cells slots Q (F0 m pc ls st0) := by
  intro T hT X
  rcases hr T hT X with ⟨v, st₀, t, T', L, h0, X', hL, e1, e2, ⟨⟨r, u, hv, hp, hb⟩, hF⟩, st⟩ | ⟨q, st₀, t, T', L, E, ce, h0, X', hL, e1, e2, ⟨u, hp, hb, hF⟩, hce, hcv, hcl, st⟩
  · cases hv
    obtain ⟨k1, k2, k3⟩ := vx_keep h0 e1 hS hA hf hL hF
    obtain ⟨t2, a1, b1⟩ := kk r u t T'.heap (locs ++ L) e1.symm (by rw [← e2]; exact X'.warmed.alike) hp hb k1 k2 k3 T' rfl X'
    exact ⟨t2, st t2 a1, b1⟩
  · obtain ⟨k1, k2, k3⟩ := vx_keep h0 e1 hS hAX hf hL hF
    obtain ⟨t2, a1, b1⟩ := kx E ce q u t T'.heap (locs ++ L) e1.symm (by rw [← e2]; exact X'.warmed.alike) hp hb k1 k2 k3 (by rw [e1]; exact hce) hcv hcl T' rfl X'
    exact ⟨t2, st.trans a1, b1⟩
theorem vx_callf {S SX : Type} {post : UInt32 → S → Prop} {px : SX → Prop} {B : S → State → Prop} {BX : String → SX → State → Prop} {AX : Nat → Prop} (hr : vx_Run p l e R s m args below meth c H locs cells slots mc ms (F0 m pc ls st0) rest (va_Qf post B A1 a) (vx_X px BX AX) free) (hS : va_S A0 H0 H locs) (hA : ∀ q, q < H.size → A1 q → A0 q) (hf : ∀ q, free q → A0 q) (hAX : ∀ q, q < H.size → AX q → A0 q)
    (kx : ∀ (E : String) (ce : Cell) (q9 : Addr) (u : SX) (t : State) (H1 : Heap) (locs1 : List Loc), t.heap = H1 → s.vm.Alike t.vm → px u → BX E u t → H.size ≤ H1.size → (∀ q : Nat, q < H.size → ¬ AX q → H1[q]? = H[q]?) → va_S A0 H0 H1 locs1 → H1[q9]? = some ce → ce.vm = .none → s.vm.findClass E = some ce.cls → vx_W p l e R s m args below meth c H1 locs1 (cells + mc) (slots + ms) Q (F0 m pc ls rest) q9)
    (kk : ∀ (r : UInt32) (u : S) (t : State) (H1 : Heap) (locs1 : List Loc), t.heap = H1 → s.vm.Alike t.vm → post r u → B u t → H.size ≤ H1.size → (∀ q : Nat, q < H.size → ¬ A1 q → H1[q]? = H[q]?) → va_S A0 H0 H1 locs1 → W p l e R s m args below meth c H1 locs1 (cells + mc) (slots + ms) Q (F0 m (pc + 3) ls (.float r :: rest))) : W p l e R s m args below meth c H locs cells slots Q (F0 m pc ls st0) := by
  intro T hT X
  rcases hr T hT X with ⟨v, st₀, t, T', L, h0, X', hL, e1, e2, ⟨⟨r, u, hv, hp, hb⟩, hF⟩, st⟩ | ⟨q, st₀, t, T', L, E, ce, h0, X', hL, e1, e2, ⟨u, hp, hb, hF⟩, hce, hcv, hcl, st⟩
  · cases hv
    obtain ⟨k1, k2, k3⟩ := vx_keep h0 e1 hS hA hf hL hF
    obtain ⟨t2, a1, b1⟩ := kk r u t T'.heap (locs ++ L) e1.symm (by rw [← e2]; exact X'.warmed.alike) hp hb k1 k2 k3 T' rfl X'
    exact ⟨t2, st t2 a1, b1⟩
  · obtain ⟨k1, k2, k3⟩ := vx_keep h0 e1 hS hAX hf hL hF
    obtain ⟨t2, a1, b1⟩ := kx E ce q u t T'.heap (locs ++ L) e1.symm (by rw [← e2]; exact X'.warmed.alike) hp hb k1 k2 k3 (by rw [e1]; exact hce) hcv hcl T' rfl X'
    exact ⟨t2, st.trans a1, b1⟩
theorem vx_calld {S SX : Type} {post : UInt64 → S → Prop} {px : SX → Prop} {B : S → State → Prop} {BX : String → SX → State → Prop} {AX : Nat → Prop} (hr : vx_Run p l e R s m args below meth c H locs cells slots mc ms (F0 m pc ls st0) rest (va_Qd post B A1 a) (vx_X px BX AX) free) (hS : va_S A0 H0 H locs) (hA : ∀ q, q < H.size → A1 q → A0 q) (hf : ∀ q, free q → A0 q) (hAX : ∀ q, q < H.size → AX q → A0 q)
    (kx : ∀ (E : String) (ce : Cell) (q9 : Addr) (u : SX) (t : State) (H1 : Heap) (locs1 : List Loc), t.heap = H1 → s.vm.Alike t.vm → px u → BX E u t → H.size ≤ H1.size → (∀ q : Nat, q < H.size → ¬ AX q → H1[q]? = H[q]?) → va_S A0 H0 H1 locs1 → H1[q9]? = some ce → ce.vm = .none → s.vm.findClass E = some ce.cls → vx_W p l e R s m args below meth c H1 locs1 (cells + mc) (slots + ms) Q (F0 m pc ls rest) q9)
    (kk : ∀ (r : UInt64) (u : S) (t : State) (H1 : Heap) (locs1 : List Loc), t.heap = H1 → s.vm.Alike t.vm → post r u → B u t → H.size ≤ H1.size → (∀ q : Nat, q < H.size → ¬ A1 q → H1[q]? = H[q]?) → va_S A0 H0 H1 locs1 → W p l e R s m args below meth c H1 locs1 (cells + mc) (slots + ms) Q (F0 m (pc + 3) ls (.double r :: rest))) : W p l e R s m args below meth c H locs cells slots Q (F0 m pc ls st0) := by
  intro T hT X
  rcases hr T hT X with ⟨v, st₀, t, T', L, h0, X', hL, e1, e2, ⟨⟨r, u, hv, hp, hb⟩, hF⟩, st⟩ | ⟨q, st₀, t, T', L, E, ce, h0, X', hL, e1, e2, ⟨u, hp, hb, hF⟩, hce, hcv, hcl, st⟩
  · cases hv
    obtain ⟨k1, k2, k3⟩ := vx_keep h0 e1 hS hA hf hL hF
    obtain ⟨t2, a1, b1⟩ := kk r u t T'.heap (locs ++ L) e1.symm (by rw [← e2]; exact X'.warmed.alike) hp hb k1 k2 k3 T' rfl X'
    exact ⟨t2, st t2 a1, b1⟩
  · obtain ⟨k1, k2, k3⟩ := vx_keep h0 e1 hS hAX hf hL hF
    obtain ⟨t2, a1, b1⟩ := kx E ce q u t T'.heap (locs ++ L) e1.symm (by rw [← e2]; exact X'.warmed.alike) hp hb k1 k2 k3 (by rw [e1]; exact hce) hcv hcl T' rfl X'
    exact ⟨t2, st.trans a1, b1⟩
theorem vx_callv {S SX : Type} {post : S → Prop} {px : SX → Prop} {B : S → State → Prop} {BX : String → SX → State → Prop} {AX : Nat → Prop} (hr : vx_Run p l e R s m args below meth c H locs cells slots mc ms (F0 m pc ls st0) rest (va_Qv post B A1 a) (vx_X px BX AX) free) (hS : va_S A0 H0 H locs) (hA : ∀ q, q < H.size → A1 q → A0 q) (hf : ∀ q, free q → A0 q) (hAX : ∀ q, q < H.size → AX q → A0 q)
    (kx : ∀ (E : String) (ce : Cell) (q9 : Addr) (u : SX) (t : State) (H1 : Heap) (locs1 : List Loc), t.heap = H1 → s.vm.Alike t.vm → px u → BX E u t → H.size ≤ H1.size → (∀ q : Nat, q < H.size → ¬ AX q → H1[q]? = H[q]?) → va_S A0 H0 H1 locs1 → H1[q9]? = some ce → ce.vm = .none → s.vm.findClass E = some ce.cls → vx_W p l e R s m args below meth c H1 locs1 (cells + mc) (slots + ms) Q (F0 m pc ls rest) q9)
    (kk : ∀ (u : S) (t : State) (H1 : Heap) (locs1 : List Loc), t.heap = H1 → s.vm.Alike t.vm → post u → B u t → H.size ≤ H1.size → (∀ q : Nat, q < H.size → ¬ A1 q → H1[q]? = H[q]?) → va_S A0 H0 H1 locs1 → W p l e R s m args below meth c H1 locs1 (cells + mc) (slots + ms) Q (F0 m (pc + 3) ls (rest))) : W p l e R s m args below meth c H locs cells slots Q (F0 m pc ls st0) := by
  intro T hT X
  rcases hr T hT X with ⟨v, st₀, t, T', L, h0, X', hL, e1, e2, ⟨⟨u, hv, hp, hb⟩, hF⟩, st⟩ | ⟨q, st₀, t, T', L, E, ce, h0, X', hL, e1, e2, ⟨u, hp, hb, hF⟩, hce, hcv, hcl, st⟩
  · cases hv
    obtain ⟨k1, k2, k3⟩ := vx_keep h0 e1 hS hA hf hL hF
    obtain ⟨t2, a1, b1⟩ := kk u t T'.heap (locs ++ L) e1.symm (by rw [← e2]; exact X'.warmed.alike) hp hb k1 k2 k3 T' rfl X'
    exact ⟨t2, st t2 a1, b1⟩
  · obtain ⟨k1, k2, k3⟩ := vx_keep h0 e1 hS hAX hf hL hF
    obtain ⟨t2, a1, b1⟩ := kx E ce q u t T'.heap (locs ++ L) e1.symm (by rw [← e2]; exact X'.warmed.alike) hp hb k1 k2 k3 (by rw [e1]; exact hce) hcv hcl T' rfl X'
    exact ⟨t2, st.trans a1, b1⟩
/-- caught by the row x of this method's table; the rows ahead don't take it -/
theorem vx_catch {own name : String} {E : String} {ce : Cell} {q : Addr} (hown : s.vm.findClass own = some m.cls) (pre : List ExceptionTableEntry) (x : ExceptionTableEntry) (suf : List ExceptionTableEntry) (hsplit : c.exceptionTable.toList = pre ++ x :: suf)
    (hpass : ∀ z ∈ pre, covers z pc = false ∨ (z.catchType ≠ 0 ∧ ∃ nm : String, (Cond.classLink own z.catchType nm).before args s = true ∧ va_Nc E nm s)) (hx : covers x pc = true) (h0 : x.catchType ≠ 0)
    (hlink : (Cond.classLink own x.catchType name).before args s = true) (hcast : (Cond.castable E name).before args s = true) (hcell : H[q]? = some ce) (hv : ce.vm = .none) (hcl : s.vm.findClass E = some ce.cls)
    (kk : W p l e R s m args below meth c H locs cells slots Q (F0 m x.handlerPc ls [.ref q])) : vx_W p l e R s m args below meth c H locs cells slots Q (F0 m pc ls rest) q := by
  intro T hT X
  have hpl : e.platform.magicAccessors = ({} : Platform).magicAccessors := by rw [X.admits.platform]
  obtain ⟨c3, c4, hc3, hc4, hasg⟩ := Cond.castable_spec hcast
  cases Option.some.inj (hc3.symm.trans hcl)
  obtain ⟨c5, hc5, hcl5⟩ := Cond.classLink_spec hown hlink e.platform hpl
  cases Option.some.inj (hc4.symm.trans hc5)
  obtain ⟨vm', X', st⟩ := X.thenCaughtThrough q (g := F0 m pc ls rest) rfl (Steps.refl _) (by rw [hT]; exact hcell) (by rw [hv]; rfl) (by obtain ⟨k9, h9, -⟩ := Vm.findClass_spec hcl; exact ⟨k9, h9⟩) pre x suf hsplit
    (fun z hz => by
      rcases hpass z hz with h | ⟨hz0, nm, hl1, hn1⟩
      · exact Or.inl h
      · obtain ⟨c6, hc6, hcl6⟩ := Cond.classLink_spec hown hl1 e.platform hpl
        obtain ⟨a8, b8, h1, h2, h3⟩ := hn1
        cases Option.some.inj (h1.symm.trans hcl)
        cases Option.some.inj (h2.symm.trans hc6)
        exact Or.inr ⟨hz0, _, hcl6, h3⟩) hx (Or.inr ⟨h0, c4, hcl5, hasg⟩)
  obtain ⟨t, a1, b1⟩ := kk (T.setVm vm') hT X'
  exact ⟨t, st.trans a1, b1⟩
end Rows
section Ends
variable {p : Program} {l : Launch} {e : Env} {R : Room} {s : State} {m : MethodId} {args : Array Value} {below : List Frame} {meth : Method} {c : Code} {H : Heap} {locs : List Loc} {cells slots : Nat} {Q : State → Prop}
variable {mc ms : Nat} {free : Addr → Prop} {A0 A1 : Nat → Prop} {H0 : Heap} {a : Array Value} {ls : Array Slot} {st0 rest : List Value}
variable {Qc : Array Value → State → Outcome → State → Prop} {XC : String → State → State → Prop}
/-- what a body that may throw owes at its end -/
def vx_MQ (below : List Frame) (Qc : Array Value → State → Outcome → State → Prop) (XC : String → State → State → Prop) (a : Array Value) (s : State) (mc ms : Nat) (free : Addr → Prop) : State → Prop := fun t =>
  ∃ o, t.status = .running ∧ Ended t below o ∧ vx_Q Qc XC mc ms free a s o t
theorem vx_ret {g : JFrame} {mc ms : Nat} (k : W p l e R s m args below meth c H locs cells slots (MQ below Qc args s mc ms free) g) : W p l e R s m args below meth c H locs cells slots (vx_MQ below Qc XC args s mc ms free) g := by
  intro T hT X
  obtain ⟨t, a1, o, b1, b2, b3, b4⟩ := k T hT X
  exact ⟨t, a1, o, b1, b2, Or.inl ⟨b3, b4⟩⟩
/-- not caught here: it goes on to the caller -/
theorem vx_widen {g : JFrame} {q : Addr} {k n : Nat} (h1 : cells ≤ k) (h2 : slots ≤ n) (kk : vx_W p l e R s m args below meth c H locs k n Q g q) : vx_W p l e R s m args below meth c H locs cells slots Q g q := fun T hT X => kk T hT (stand_widen X h1 h2)
theorem vx_out {pc : Nat} {E : String} {ce : Cell} {q : Addr} {mc ms : Nat} (hout : ∀ x ∈ c.exceptionTable.toList, covers x pc = false) (hlocks : meth.locks = false) (hcell : H[q]? = some ce) (hv : ce.vm = .none) (hcl : s.vm.findClass E = some ce.cls)
    (hx : ∀ t : State, t.heap = H → s.vm.Alike t.vm → XC E s t) (hf : ∀ z ∈ locs, free z.base) (hc : cells ≤ mc) (hs : slots ≤ ms) :
    vx_W p l e R s m args below meth c H locs cells slots (vx_MQ below Qc XC args s mc ms free) (F0 m pc ls rest) q := by
  intro T hT X
  obtain ⟨st1, hrun, hend, hW, hsm⟩ := X.leaveThrown q (g := F0 m pc ls rest) rfl rfl rfl hout hlocks
  have hcell9 : (T.setFrames (.throwing q :: below)).heap[q]? = some ce := by
    show T.heap[q]? = some ce
    rw [hT]; exact hcell
  exact ⟨_, st1, .threw q, hrun, hend, Or.inr ⟨q, rfl, E, ce, locs, hx _ hT hW.alike, hcell9, hv, hcl, hW, hsm.mono hc hs, hf⟩⟩
theorem vx_frame {U : State} {k n : Nat} (h : s.sameButNew ({ U with vm := s.vm } : State) locs k n) : s.heap.size ≤ U.heap.size ∧ ∀ q : Nat, q < s.heap.size → (∀ z ∈ locs, z.base ≠ q) → U.heap[q]? = s.heap[q]? := by
  obtain ⟨-, h2, -, -, -, h6⟩ := h
  refine ⟨h2, fun q hq hz => ?_⟩
  obtain ⟨c9, e1, e2, e3, e4⟩ := h6 q _ (Array.getElem?_eq_getElem hq)
  have hs : c9.slots = (s.heap[q]).slots := Array.ext_getElem? fun i => e4 i fun hm => hz _ hm rfl
  have h9 : c9 = s.heap[q] := by
    rw [hs] at e2
    exact e2
  have e5 : U.heap[q]? = some c9 := e1
  rw [e5, h9, Array.getElem?_eq_getElem hq]
/-- the words of a throw but the four that speak of the heap -/
def vx_no (w : Cond) : Bool := decide (w ≠ .isRef (.static Bundle.tN "UNASSIGNED_STACK" Bundle.steD)) && decide (w ≠ .isRef (.static Bundle.tN "SUPPRESSED_SENTINEL" Bundle.listD)) && decide (w ≠ .laysStatic Bundle.tN "UNASSIGNED_STACK" Bundle.steD) && decide (w ≠ .laysStatic Bundle.tN "SUPPRESSED_SENTINEL" Bundle.listD)
def vx_at0 (own : String) (ic : Nat) (X : String) (names : List String) : List Cond := (Bundle.ownAtoms0 own ic X names).filter vx_no
def vx_atS (own : String) (ic : Nat) (X : String) (names : List String) : List Cond := (Bundle.ownAtoms own ic X names).filter vx_no
/-- a word that the tables alone decide, or a good one -/
def vx_ot (w : Cond) : Bool := w.onTables || goodWord w
theorem vx_ot_at {args a' : Array Value} {s U : State} {w : Cond} (hW : s.WarmedH U.vm) (hvm : s.vm = U.vm) (hg : vx_ot w = true) (h : w.before args s = true) : w.before a' U = true := by
  simp only [vx_ot, Bool.or_eq_true] at hg
  rcases hg with hg | hg
  · exact va_tabs hg hvm h
  · exact word_at hW (good_of_word hg) h
/-- a list's words: the good ones out of the method's own list, the others by premises of their own -/
theorem vx_hat {args : Array Value} {s : State} {L B : List Cond} (h1 : ∀ w ∈ L.filter goodWord, w.before args s = true) (h2 : ∀ w ∈ L.filter (fun w => !goodWord w), w ∈ B) (h3 : ∀ w ∈ B, w.before args s = true) : ∀ w ∈ L, w.before args s = true := by
  intro w hw
  by_cases g : goodWord w = true
  · exact h1 w (List.mem_filter.mpr ⟨hw, g⟩)
  · refine h3 w (h2 w (List.mem_filter.mpr ⟨hw, ?_⟩))
    show (!goodWord w) = true
    cases hgw : goodWord w
    · rfl
    · exact absurd hgw g
theorem vx_c {args : Array Value} {s : State} {w : Cond} {B : List Cond} (h : w.before args s = true) (t : ∀ w ∈ B, w.before args s = true) : ∀ w' ∈ w :: B, w'.before args s = true := fun w' h' => (List.mem_cons.mp h').elim (fun e => by rw [e]; exact h) (t w')
theorem vx_n {args : Array Value} {s : State} : ∀ w ∈ ([] : List Cond), w.before args s = true := fun _ h => nomatch h
theorem vx_own {args : Array Value} {s : State} {L : List Cond} (h1 : ∀ w ∈ L.filter vx_no, w.before args s = true)
    (hU : (Cond.isRef (.static Bundle.tN "UNASSIGNED_STACK" Bundle.steD)).before args s = true) (hN : (Cond.isRef (.static Bundle.tN "SUPPRESSED_SENTINEL" Bundle.listD)).before args s = true)
    (lU : (Cond.laysStatic Bundle.tN "UNASSIGNED_STACK" Bundle.steD).before args s = true) (lN : (Cond.laysStatic Bundle.tN "SUPPRESSED_SENTINEL" Bundle.listD).before args s = true) : ∀ w ∈ L, w.before args s = true := by
  intro w hw
  by_cases e1 : w = .isRef (.static Bundle.tN "UNASSIGNED_STACK" Bundle.steD)
  · rw [e1]; exact hU
  · by_cases e2 : w = .isRef (.static Bundle.tN "SUPPRESSED_SENTINEL" Bundle.listD)
    · rw [e2]; exact hN
    · by_cases e3 : w = .laysStatic Bundle.tN "UNASSIGNED_STACK" Bundle.steD
      · rw [e3]; exact lU
      · by_cases e4 : w = .laysStatic Bundle.tN "SUPPRESSED_SENTINEL" Bundle.listD
        · rw [e4]; exact lN
        · exact h1 w (List.mem_filter.mpr ⟨hw, by unfold vx_no; rw [decide_eq_true e1, decide_eq_true e2, decide_eq_true e3, decide_eq_true e4]; rfl⟩)
/-- where a static field lies, its class's statics cell in H -/
def vx_L (C n d : String) (A : Nat → Prop) (U : State) (H : Heap) : Prop := ∃ (c : ClassId) (k : Class) (i : Nat) (f : Field) (a : Nat) (cell : Cell), U.vm.findClass C = some c ∧ U.fieldFound? C n d = some (c, k, i, f) ∧ f.isStatic = true ∧ k.statics = some a ∧ H[a]? = some cell ∧ cell.vm.isStatics = true ∧ cell.cls = c ∧ f.slot < cell.slots.size ∧ k.staticTypes[f.slot]? = some f.type ∧ ¬ A a
theorem vx_L.moved {C n d : String} {A : Nat → Prop} {u U : State} {H : Heap} (hvm : u.vm.Alike U.vm) (h : vx_L C n d A u H) : vx_L C n d A U H := by
  obtain ⟨c, k, i, f, a, cell, h1, h2, h3, h4, h5, h6, h7, h8, h9, h10⟩ := h
  obtain ⟨k', hi', he⟩ := State.fieldFound?_setVm hvm h2
  exact ⟨c, k', i, f, a, cell, by rw [hvm.findClass]; exact h1, hi', h3, by rw [he]; exact h4, h5, h6, h7, h8, by rw [he]; exact h9, h10⟩
theorem vx_L.kept {C n d : String} {A : Nat → Prop} {U : State} {H H1 : Heap} (h : vx_L C n d A U H) (hq : ∀ a : Nat, a < H.size → ¬ A a → H1[a]? = H[a]?) : vx_L C n d A U H1 := by
  obtain ⟨c, k, i, f, a, cell, h1, h2, h3, h4, h5, h6, h7, h8, h9, h10⟩ := h
  exact ⟨c, k, i, f, a, cell, h1, h2, h3, h4, by rw [hq a (Array.getElem?_eq_some_iff.mp h5).1 h10]; exact h5, h6, h7, h8, h9, h10⟩
theorem vx_L.narrow {C n d : String} {A B : Nat → Prop} {U : State} {H : Heap} (h : vx_L C n d A U H) (hAB : ∀ q, B q → A q) : vx_L C n d B U H := by
  obtain ⟨c, k, i, f, a, cell, h1, h2, h3, h4, h5, h6, h7, h8, h9, h10⟩ := h
  exact ⟨c, k, i, f, a, cell, h1, h2, h3, h4, h5, h6, h7, h8, h9, fun z => h10 (hAB _ z)⟩
theorem vx_L.word {C n d : String} {A : Nat → Prop} {s : State} {args : Array Value} (h : vx_L C n d A s s.heap) : (Cond.laysStatic C n d).before args s = true := by
  obtain ⟨c, k, i, f, a, cell, h1, h2, h3, h4, h5, h6, h7, h8, h9, -⟩ := h
  show (Cond.laysStatic C n d).holds args s none s [] = true
  exact Cond.laysStatic_of h1 h2 h3 h4 h5 h6 h7 h8 h9
/-- .. and what it holds: null or some reference -/
def vx_Zq (C n d : String) (A : Nat → Prop) (U : State) (H : Heap) : Prop := va_Zq C n d A U H ∧ vx_L C n d A U H
theorem vx_Zq.moved {C n d : String} {A : Nat → Prop} {u U : State} {H : Heap} (hvm : u.vm.Alike U.vm) (h : vx_Zq C n d A u H) : vx_Zq C n d A U H := ⟨va_Zq.moved hvm h.1, vx_L.moved hvm h.2⟩
theorem vx_Zq.kept {C n d : String} {A : Nat → Prop} {U : State} {H H1 : Heap} (h : vx_Zq C n d A U H) (hq : ∀ a : Nat, a < H.size → ¬ A a → H1[a]? = H[a]?) : vx_Zq C n d A U H1 := ⟨va_Zq.kept h.1 hq, vx_L.kept h.2 hq⟩
theorem vx_Zq.narrow {C n d : String} {A B : Nat → Prop} {U : State} {H : Heap} (h : vx_Zq C n d A U H) (hAB : ∀ q, B q → A q) : vx_Zq C n d B U H := ⟨va_Zq.narrow h.1 hAB, vx_L.narrow h.2 hAB⟩
theorem vx_Zqof {args : Array Value} {s : State} {C n d : String} {A : Nat → Prop} (hl : (Cond.laysStatic C n d).before args s = true) (hini : (Cond.initialized C).before args s = true) (h : (Cond.isRef (.static C n d)).before args s = true) (hA : ∀ a : Nat, a < s.heap.size → ¬ A a) : vx_Zq C n d A s s.heap := by
  refine ⟨va_Zqof hl hini h hA, ?_⟩
  obtain ⟨c, k, i, f, a, cell, h1, h2, h3, h4, h5, h6, h7, h8, h9⟩ := Cond.laysStatic_spec hl
  exact ⟨c, k, i, f, a, cell, h1, h2, h3, h4, h5, h6, h7, h8, h9, hA a (Array.getElem?_eq_some_iff.mp h5).1⟩
theorem vx_isRef {C n d : String} {v : Value} {A : Nat → Prop} {s : State} {args : Array Value} (h : va_Z C n d v A s s.heap) (hv : v.isRef = true) : (Cond.isRef (.static C n d)).before args s = true := by
  obtain ⟨cf, kf, fi, f, a, cell, h1, h2, h3, h4, h5, h6, h7, -⟩ := h
  have he : (Term.static C n d).eval args s none [] s = some v := by
    simp [Term.eval, State.fieldNamed?, h1, h2, h4, h5, h6, h7]
  simp only [Cond.before, Cond.holds, Cond.value, he]
  cases v <;> simp_all [Value.isRef]
theorem vx_isRefq {C n d : String} {A : Nat → Prop} {s : State} {args : Array Value} (h : va_Zq C n d A s s.heap) : (Cond.isRef (.static C n d)).before args s = true := by
  rcases h with h | ⟨t, h⟩
  · exact vx_isRef h rfl
  · exact vx_isRef h rfl
/-- the same frame, seen from here: as if the method were called anew in this heap -/
theorem vx_rebase {T : State} (X : Stand p l e R s m args below meth c T locs cells slots) {R' : Room} (hf : R'.frames ≤ R.frames) (hl : R'.locals ≤ R.locals) (hc : cells + R'.cells ≤ R.cells) (hs : slots + R'.slots ≤ R.slots) :
    Stand p l e R' ((T.setVm s.vm).setFrames (.invoking m args :: below)) m args below meth c T [] 0 0 := by
  have htop : (T.setVm s.vm).topJava?.isSome := X.here.top
  have hF : ((T.setVm s.vm).setFrames (.invoking m args :: below)).frames = .invoking m args :: below := State.frames_setFrames _ (State.cur_lt_of_top htop)
  obtain ⟨g₀, hg0⟩ := Option.isSome_iff_exists.mp htop
  obtain ⟨r, hr⟩ := State.topJava?_eq_some.mp hg0
  have hl9 : e.platform.stackLimits (T.setVm s.vm).me = e.platform.stackLimits s.me := X.limits
  have hb9 : (T.setVm s.vm).me.stackBytes = s.me.stackBytes := X.bytes
  refine ⟨X.admits, X.cas, X.clock, hF, ?_, X.hears, X.method, X.code, X.here, X.tail, X.warmed, ?_, ?_, ?_⟩
  · have h := X.room
    have hU : ((T.setVm s.vm).setFrames (.invoking m args :: below)).localsInUse = s.localsInUse := by
      rw [State.localsInUse_invoking hF (meth := meth) (c := c) X.method X.code, State.localsInUse_invoking X.frames X.method X.code]
    simp only [State.hasRoom, Bool.and_eq_true, decide_eq_true_eq] at h ⊢
    obtain ⟨⟨⟨⟨h1, h2, h3, h4, h5, h6⟩, h7⟩, h8⟩, h9⟩ := h
    rw [X.frames, List.length_cons] at h2 h3
    have q1 := X.heapSize
    have q2 := X.used
    simp only [hF, hU, List.length_cons, State.stackLimits_setFrames, State.stackBytes_setFrames, hl9, hb9]
    refine ⟨⟨⟨⟨by omega, by omega, by omega, by omega, by omega, h6⟩, ?_⟩, ?_⟩, X.book⟩
    · show T.heap.size + R'.cells ≤ e.platform.maxCells
      omega
    · show T.slotsUsed + R'.slots ≤ e.platform.maxSlots
      omega
  · rw [State.stackLimits_setFrames]; rfl
  · rw [State.stackBytes_setFrames]; rfl
  · refine ⟨?_, Nat.le_refl _, Nat.le_refl _, ?_, ?_, fun a c9 h9 => ⟨c9, h9, rfl, rfl, fun _ _ => rfl⟩⟩
    · obtain ⟨t, ht, -⟩ := State.frames_cons hr
      show T.setVm s.vm = { ((T.setVm s.vm).setFrames (.invoking m args :: below)).setFrames (T.setVm s.vm).frames with heap := T.heap, slotsUsed := T.slotsUsed }
      rw [State.setFrames_setFrames, State.setFrames_self ht]
      rfl
    · show T.slotsUsed = T.slotsUsed + ((T.heap.toList.drop T.heap.size).map (·.slots.size)).sum
      rw [List.drop_eq_nil_of_le (Nat.le_of_eq Array.length_toList)]
      rfl
    · show ((T.heap.toList.drop T.heap.size).map (·.slots.size)).sum ≤ 0
      rw [List.drop_eq_nil_of_le (Nat.le_of_eq Array.length_toList)]
      exact Nat.le_refl _
/-- 'throw new E()': new; dup; invokespecial; athrow -/
theorem vx_throw0 {cc : ByteArray} {pc : Nat} (hexec : p.tables.exec = Jvm.exec) (hb : c.code = cc) (hl : l.stackTraces = false) {own cls : String} {names : List String} {ik ic mc ms : Nat} {A : Nat → Prop}
    (hown : s.vm.findClass own = some m.cls) (hcls : Bundle.fit cls = true) (hnames : ∀ n ∈ names, Bundle.fit n = true)
    (hk : (Cond.classLink own ik cls).before args s = true) (hini : (Cond.initialized cls).before args s = true) (hat : ∀ w ∈ vx_at0 own ic cls names, w.before args s = true)
    (hgood : ∀ w ∈ Cond.classLink own ik cls :: Cond.initialized cls :: vx_at0 own ic cls names, vx_ot w = true)
    (hU : vx_Zq Bundle.tN "UNASSIGNED_STACK" Bundle.steD A s s.heap) (hN : vx_Zq Bundle.tN "SUPPRESSED_SENTINEL" Bundle.listD A s s.heap) (hS : va_S A s.heap H locs) (hsize : ls.size = c.maxLocals)
    (d0 : decode cc pc = .ok (.new ik, 3)) (d3 : decode cc (pc + 3) = .ok (.dup, 1)) (d4 : decode cc (pc + 4) = .ok (.invokespecial ic, 3)) (d7 : decode cc (pc + 7) = .ok (.athrow, 1))
    (hout : ∀ x ∈ c.exceptionTable.toList, covers x (pc + 7) = false)
    (hRframes : names.length + 3 < R.frames) (hRlocals : (rest.map fun v => v.category).sum + (13 * (names.length + 1) + 42) ≤ R.locals) (hRcells : cells + 1 ≤ R.cells) (hRslots : slots + 6 ≤ R.slots) (hlocks : meth.locks = false)
    (hx : ∀ t : State, s.vm.Alike t.vm → H.size ≤ t.heap.size → (∀ q : Nat, q < H.size → t.heap[q]? = H[q]?) → XC cls s t)
    (hf : ∀ z ∈ locs, free z.base) (hc : cells + 1 ≤ mc) (hs : slots + 6 ≤ ms) :
    W p l e R s m args below meth c H locs cells slots (vx_MQ below Qc XC args s mc ms free) (F0 m pc ls rest) := by
  intro T hT X
  have htr : e.platform.stackTraces = false := (show e.platform.stackTraces = l.stackTraces by rw [X.admits.platform]).trans hl
  have Y := vx_rebase X (R' := { frames := R.frames, locals := R.locals, cells := 1, slots := 6 }) (Nat.le_refl _) (Nat.le_refl _) hRcells hRslots
  obtain ⟨s', hA⟩ : ∃ z, z = (T.setVm s.vm).setFrames (.invoking m args :: below) := ⟨_, rfl⟩
  rw [← hA] at Y
  have hvm : s'.vm = s.vm := by rw [hA]; rfl
  have hhp : s'.heap = H := by rw [hA]; exact hT
  have hW0 : s.WarmedH s'.vm := by rw [hvm]; exact State.WarmedH.refl s
  have hat' : ∀ w ∈ vx_at0 own ic cls names, w.before args s' = true := fun w hw => vx_ot_at hW0 hvm.symm (hgood w (List.mem_cons_of_mem _ (List.mem_cons_of_mem _ hw))) (hat w hw)
  have hk' : (Cond.classLink own ik cls).before args s' = true := vx_ot_at hW0 hvm.symm (hgood _ List.mem_cons_self) hk
  have hini' : (Cond.initialized cls).before args s' = true := vx_ot_at hW0 hvm.symm (hgood _ (List.mem_cons_of_mem _ List.mem_cons_self)) hini
  have hU' : vx_Zq Bundle.tN "UNASSIGNED_STACK" Bundle.steD A s' s'.heap := by rw [hhp]; exact vx_Zq.moved hW0.alike (hU.kept hS.2.1)
  have hN' : vx_Zq Bundle.tN "SUPPRESSED_SENTINEL" Bundle.listD A s' s'.heap := by rw [hhp]; exact vx_Zq.moved hW0.alike (hN.kept hS.2.1)
  have h : ∀ w ∈ Bundle.ownAtoms0 own ic cls names, w.before args s' = true := vx_own hat' (vx_isRefq hU'.1) (vx_isRefq hN'.1) hU'.2.word hN'.2.word
  have hown' : s'.vm.findClass own = some m.cls := by rw [hvm]; exact hown
  have hins : (Cond.instantiable cls 6).before args s' = true := h _ (by simp [Bundle.ownAtoms0])
  obtain ⟨vm₁, cX, kX, hfX, hkX, -, -, X₁, st1⟩ := Y.newCold hexec (own := own) (C := cls) (index := ik) (n := 6) hown' hk' hins hini'
    (g := F0 m pc ls rest) rfl (by rw [hb]; exact d0) (Nat.le_refl _) (Nat.le_refl _)
  generalize hT1 : (T.setVm vm₁).pushCell { cls := cX, slots := kX.instanceTypes.map defaultValue, vm := .none } = T1 at X₁ st1
  have hcat : (Value.ref T.heap.size).category = 1 := rfl
  have hcellA : T1.heap[T.heap.size]? = some (freshCell cX kX) := by rw [← hT1]; exact State.heap_pushCell_size _ _
  have d3' : decode c.code (pc + 3) = .ok (.dup, 1) := by rw [hb]; exact d3
  obtain ⟨U, hsteps, hrun, hend, hW, hsame, ce, hce, hO⟩ := X₁.ctorThrow0 hexec htr (own := own) (cls := cls) (names := names) (ic := ic) hown' hcls hnames h (fun x hx => nomatch hx) hfX hkX hcellA (by rw [hhp, hT]; exact Nat.le_refl _)
    (g := { method := m, pc := pc + 4, locals := ls, stack := .ref T.heap.size :: .ref T.heap.size :: rest, locked := none }) rfl hsize rfl rfl (rest := rest) rfl
    (by rw [hb]; exact d4) (by rw [hb]; exact d7) hout hRframes (by simp only [List.map_cons, List.sum_cons, hcat]; omega) hlocks
  obtain ⟨f1, f2⟩ := vx_frame hsame
  rw [hhp] at f1 f2
  have hWs : s.WarmedH U.vm := State.WarmedH.trans hW0 hW
  have hcl : s.vm.findClass cls = some ce.cls := by
    have h9 := hO.cls
    rw [hvm] at h9
    exact h9
  have hall : s.sameButNew ({ U with vm := s.vm } : State) locs mc ms := by
    subst hA
    obtain ⟨e1, e2⟩ := hsame
    rw [State.setFrames_setFrames] at e1
    have h2 : (T.setVm s.vm).sameButNew ({ U with vm := s.vm } : State) [] (0 + 1) (0 + 6) := ⟨e1, e2⟩
    have h3 := X.same.trans h2
    rw [List.append_nil] at h3
    exact h3.mono hc hs
  refine ⟨U, ?_, .threw T.heap.size, hrun, hend, Or.inr ⟨T.heap.size, rfl, cls, ce, locs, hx U hWs.alike f1 (fun q hq => f2 q hq (fun z hz => nomatch hz)), hce, hO.vm, hcl, hWs, hall, hf⟩⟩
  refine st1 _ ?_
  show Steps p.tables e below (T1.setTop { method := m, pc := pc + 3, locals := ls, stack := .ref T.heap.size :: rest, locked := none }) _
  jvm_step X₁.here [X₁.here.top, hexec, d3', Value.category]
  exact hsteps
/-- 'throw new E("text")': new; dup; ldc; invokespecial; athrow -/
theorem vx_throwS {cc : ByteArray} {pc : Nat} (hexec : p.tables.exec = Jvm.exec) (hb : c.code = cc) (hl : l.stackTraces = false) {own cls text : String} {names : List String} {ik is ic mc ms sa : Nat} {A : Nat → Prop}
    (hown : s.vm.findClass own = some m.cls) (hcls : Bundle.fit cls = true) (hnames : ∀ n ∈ names, Bundle.fit n = true)
    (hk : (Cond.classLink own ik cls).before args s = true) (hini : (Cond.initialized cls).before args s = true) (hstr : vk_R own is text sa s) (hat : ∀ w ∈ vx_atS own ic cls names, w.before args s = true)
    (hgood : ∀ w ∈ Cond.classLink own ik cls :: Cond.initialized cls :: vx_atS own ic cls names, vx_ot w = true)
    (hU : vx_Zq Bundle.tN "UNASSIGNED_STACK" Bundle.steD A s s.heap) (hN : vx_Zq Bundle.tN "SUPPRESSED_SENTINEL" Bundle.listD A s s.heap) (hS : va_S A s.heap H locs) (hsize : ls.size = c.maxLocals)
    (d0 : decode cc pc = .ok (.new ik, 3)) (d3 : decode cc (pc + 3) = .ok (.dup, 1)) (d4 : decode cc (pc + 4) = .ok (.ldc is, 2)) (d6 : decode cc (pc + 6) = .ok (.invokespecial ic, 3)) (d9 : decode cc (pc + 9) = .ok (.athrow, 1))
    (hout : ∀ x ∈ c.exceptionTable.toList, covers x (pc + 9) = false)
    (hRframes : names.length + 3 < R.frames) (hRlocals : (rest.map fun v => v.category).sum + (13 * (names.length + 1) + 43) ≤ R.locals) (hRcells : cells + 1 ≤ R.cells) (hRslots : slots + 6 ≤ R.slots) (hlocks : meth.locks = false)
    (hx : ∀ t : State, s.vm.Alike t.vm → H.size ≤ t.heap.size → (∀ q : Nat, q < H.size → t.heap[q]? = H[q]?) → XC cls s t)
    (hf : ∀ z ∈ locs, free z.base) (hc : cells + 1 ≤ mc) (hs : slots + 6 ≤ ms) :
    W p l e R s m args below meth c H locs cells slots (vx_MQ below Qc XC args s mc ms free) (F0 m pc ls rest) := by
  intro T hT X
  have htr : e.platform.stackTraces = false := (show e.platform.stackTraces = l.stackTraces by rw [X.admits.platform]).trans hl
  have Y := vx_rebase X (R' := { frames := R.frames, locals := R.locals, cells := 1, slots := 6 }) (Nat.le_refl _) (Nat.le_refl _) hRcells hRslots
  obtain ⟨s', hA⟩ : ∃ z, z = (T.setVm s.vm).setFrames (.invoking m args :: below) := ⟨_, rfl⟩
  rw [← hA] at Y
  have hvm : s'.vm = s.vm := by rw [hA]; rfl
  have hhp : s'.heap = H := by rw [hA]; exact hT
  have hW0 : s.WarmedH s'.vm := by rw [hvm]; exact State.WarmedH.refl s
  have hat' : ∀ w ∈ vx_atS own ic cls names, w.before args s' = true := fun w hw => vx_ot_at hW0 hvm.symm (hgood w (List.mem_cons_of_mem _ (List.mem_cons_of_mem _ hw))) (hat w hw)
  have hk' : (Cond.classLink own ik cls).before args s' = true := vx_ot_at hW0 hvm.symm (hgood _ List.mem_cons_self) hk
  have hini' : (Cond.initialized cls).before args s' = true := vx_ot_at hW0 hvm.symm (hgood _ (List.mem_cons_of_mem _ List.mem_cons_self)) hini
  have hU' : vx_Zq Bundle.tN "UNASSIGNED_STACK" Bundle.steD A s' s'.heap := by rw [hhp]; exact vx_Zq.moved hW0.alike (hU.kept hS.2.1)
  have hN' : vx_Zq Bundle.tN "SUPPRESSED_SENTINEL" Bundle.listD A s' s'.heap := by rw [hhp]; exact vx_Zq.moved hW0.alike (hN.kept hS.2.1)
  have h : ∀ w ∈ Bundle.ownAtoms own ic cls names, w.before args s' = true := vx_own hat' (vx_isRefq hU'.1) (vx_isRefq hN'.1) hU'.2.word hN'.2.word
  have hown' : s'.vm.findClass own = some m.cls := by rw [hvm]; exact hown
  have hins : (Cond.instantiable cls 6).before args s' = true := h _ (by simp [Bundle.ownAtoms])
  obtain ⟨vm₁, cX, kX, hfX, hkX, -, -, X₁, st1⟩ := Y.newCold hexec (own := own) (C := cls) (index := ik) (n := 6) hown' hk' hins hini'
    (g := F0 m pc ls rest) rfl (by rw [hb]; exact d0) (Nat.le_refl _) (Nat.le_refl _)
  generalize hT1 : (T.setVm vm₁).pushCell { cls := cX, slots := kX.instanceTypes.map defaultValue, vm := .none } = T1 at X₁ st1
  have hcat : (Value.ref T.heap.size).category = 1 := rfl
  have hcellA : T1.heap[T.heap.size]? = some (freshCell cX kX) := by rw [← hT1]; exact State.heap_pushCell_size _ _
  have d3' : decode c.code (pc + 3) = .ok (.dup, 1) := by rw [hb]; exact d3
  have d4' : decode c.code (pc + 4) = .ok (.ldc is, 2) := by rw [hb]; exact d4
  have hstr' : vk_R own is text sa s' := vk_R.warm hW0 hstr
  obtain ⟨U, hsteps, hrun, hend, hW, hsame, ce, hce, hO⟩ := X₁.ctorThrowS hexec htr (own := own) (cls := cls) (names := names) (ic := ic) hown' hcls hnames h (fun x hx => nomatch hx) hfX hkX hcellA (by rw [hhp, hT]; exact Nat.le_refl _) (msg := .ref sa) rfl
    (g := { method := m, pc := pc + 6, locals := ls, stack := .ref sa :: .ref T.heap.size :: .ref T.heap.size :: rest, locked := none }) rfl hsize rfl rfl (rest := rest) rfl
    (by rw [hb]; exact d6) (by rw [hb]; exact d9) hout hRframes (by simp only [List.map_cons, List.sum_cons, hcat]; omega) hlocks
  obtain ⟨f1, f2⟩ := vx_frame hsame
  rw [hhp] at f1 f2
  have hWs : s.WarmedH U.vm := State.WarmedH.trans hW0 hW
  have hcl : s.vm.findClass cls = some ce.cls := by
    have h9 := hO.cls
    rw [hvm] at h9
    exact h9
  have hall : s.sameButNew ({ U with vm := s.vm } : State) locs mc ms := by
    subst hA
    obtain ⟨e1, e2⟩ := hsame
    rw [State.setFrames_setFrames] at e1
    have h2 : (T.setVm s.vm).sameButNew ({ U with vm := s.vm } : State) [] (0 + 1) (0 + 6) := ⟨e1, e2⟩
    have h3 := X.same.trans h2
    rw [List.append_nil] at h3
    exact h3.mono hc hs
  refine ⟨U, ?_, .threw T.heap.size, hrun, hend, Or.inr ⟨T.heap.size, rfl, cls, ce, locs, hx U hWs.alike f1 (fun q hq => f2 q hq (fun z hz => nomatch hz)), hce, hO.vm, hcl, hWs, hall, hf⟩⟩
  refine st1 _ ?_
  show Steps p.tables e below (T1.setTop { method := m, pc := pc + 3, locals := ls, stack := .ref T.heap.size :: rest, locked := none }) _
  jvm_step X₁.here [X₁.here.top, hexec, d3', Value.category]
  exact X₁.ldcString hexec (own := own) (text := text) (index := is) (a := sa) hown' hstr'.1 hstr'.2
    (g := { method := m, pc := pc + 4, locals := ls, stack := .ref T.heap.size :: .ref T.heap.size :: rest, locked := none }) rfl d4' _ hsteps
/-- 'throw new E("text")', the text by a wide index -/
theorem vx_throwSW {cc : ByteArray} {pc : Nat} (hexec : p.tables.exec = Jvm.exec) (hb : c.code = cc) (hl : l.stackTraces = false) {own cls text : String} {names : List String} {ik is ic mc ms sa : Nat} {A : Nat → Prop}
    (hown : s.vm.findClass own = some m.cls) (hcls : Bundle.fit cls = true) (hnames : ∀ n ∈ names, Bundle.fit n = true)
    (hk : (Cond.classLink own ik cls).before args s = true) (hini : (Cond.initialized cls).before args s = true) (hstr : vk_R own is text sa s) (hat : ∀ w ∈ vx_atS own ic cls names, w.before args s = true)
    (hgood : ∀ w ∈ Cond.classLink own ik cls :: Cond.initialized cls :: vx_atS own ic cls names, vx_ot w = true)
    (hU : vx_Zq Bundle.tN "UNASSIGNED_STACK" Bundle.steD A s s.heap) (hN : vx_Zq Bundle.tN "SUPPRESSED_SENTINEL" Bundle.listD A s s.heap) (hS : va_S A s.heap H locs) (hsize : ls.size = c.maxLocals)
    (d0 : decode cc pc = .ok (.new ik, 3)) (d3 : decode cc (pc + 3) = .ok (.dup, 1)) (d4 : decode cc (pc + 4) = .ok (.ldc_w is, 3)) (d7 : decode cc (pc + 7) = .ok (.invokespecial ic, 3)) (d10 : decode cc (pc + 10) = .ok (.athrow, 1))
    (hout : ∀ x ∈ c.exceptionTable.toList, covers x (pc + 10) = false)
    (hRframes : names.length + 3 < R.frames) (hRlocals : (rest.map fun v => v.category).sum + (13 * (names.length + 1) + 43) ≤ R.locals) (hRcells : cells + 1 ≤ R.cells) (hRslots : slots + 6 ≤ R.slots) (hlocks : meth.locks = false)
    (hx : ∀ t : State, s.vm.Alike t.vm → H.size ≤ t.heap.size → (∀ q : Nat, q < H.size → t.heap[q]? = H[q]?) → XC cls s t)
    (hf : ∀ z ∈ locs, free z.base) (hc : cells + 1 ≤ mc) (hs : slots + 6 ≤ ms) :
    W p l e R s m args below meth c H locs cells slots (vx_MQ below Qc XC args s mc ms free) (F0 m pc ls rest) := by
  intro T hT X
  have htr : e.platform.stackTraces = false := (show e.platform.stackTraces = l.stackTraces by rw [X.admits.platform]).trans hl
  have Y := vx_rebase X (R' := { frames := R.frames, locals := R.locals, cells := 1, slots := 6 }) (Nat.le_refl _) (Nat.le_refl _) hRcells hRslots
  obtain ⟨s', hA⟩ : ∃ z, z = (T.setVm s.vm).setFrames (.invoking m args :: below) := ⟨_, rfl⟩
  rw [← hA] at Y
  have hvm : s'.vm = s.vm := by rw [hA]; rfl
  have hhp : s'.heap = H := by rw [hA]; exact hT
  have hW0 : s.WarmedH s'.vm := by rw [hvm]; exact State.WarmedH.refl s
  have hat' : ∀ w ∈ vx_atS own ic cls names, w.before args s' = true := fun w hw => vx_ot_at hW0 hvm.symm (hgood w (List.mem_cons_of_mem _ (List.mem_cons_of_mem _ hw))) (hat w hw)
  have hk' : (Cond.classLink own ik cls).before args s' = true := vx_ot_at hW0 hvm.symm (hgood _ List.mem_cons_self) hk
  have hini' : (Cond.initialized cls).before args s' = true := vx_ot_at hW0 hvm.symm (hgood _ (List.mem_cons_of_mem _ List.mem_cons_self)) hini
  have hU' : vx_Zq Bundle.tN "UNASSIGNED_STACK" Bundle.steD A s' s'.heap := by rw [hhp]; exact vx_Zq.moved hW0.alike (hU.kept hS.2.1)
  have hN' : vx_Zq Bundle.tN "SUPPRESSED_SENTINEL" Bundle.listD A s' s'.heap := by rw [hhp]; exact vx_Zq.moved hW0.alike (hN.kept hS.2.1)
  have h : ∀ w ∈ Bundle.ownAtoms own ic cls names, w.before args s' = true := vx_own hat' (vx_isRefq hU'.1) (vx_isRefq hN'.1) hU'.2.word hN'.2.word
  have hown' : s'.vm.findClass own = some m.cls := by rw [hvm]; exact hown
  have hins : (Cond.instantiable cls 6).before args s' = true := h _ (by simp [Bundle.ownAtoms])
  obtain ⟨vm₁, cX, kX, hfX, hkX, -, -, X₁, st1⟩ := Y.newCold hexec (own := own) (C := cls) (index := ik) (n := 6) hown' hk' hins hini'
    (g := F0 m pc ls rest) rfl (by rw [hb]; exact d0) (Nat.le_refl _) (Nat.le_refl _)
  generalize hT1 : (T.setVm vm₁).pushCell { cls := cX, slots := kX.instanceTypes.map defaultValue, vm := .none } = T1 at X₁ st1
  have hcat : (Value.ref T.heap.size).category = 1 := rfl
  have hcellA : T1.heap[T.heap.size]? = some (freshCell cX kX) := by rw [← hT1]; exact State.heap_pushCell_size _ _
  have d3' : decode c.code (pc + 3) = .ok (.dup, 1) := by rw [hb]; exact d3
  have d4' : decode c.code (pc + 4) = .ok (.ldc_w is, 3) := by rw [hb]; exact d4
  have hstr' : vk_R own is text sa s' := vk_R.warm hW0 hstr
  obtain ⟨U, hsteps, hrun, hend, hW, hsame, ce, hce, hO⟩ := X₁.ctorThrowS hexec htr (own := own) (cls := cls) (names := names) (ic := ic) hown' hcls hnames h (fun x hx => nomatch hx) hfX hkX hcellA (by rw [hhp, hT]; exact Nat.le_refl _) (msg := .ref sa) rfl
    (g := { method := m, pc := pc + 7, locals := ls, stack := .ref sa :: .ref T.heap.size :: .ref T.heap.size :: rest, locked := none }) rfl hsize rfl rfl (rest := rest) rfl
    (by rw [hb]; exact d7) (by rw [hb]; exact d10) hout hRframes (by simp only [List.map_cons, List.sum_cons, hcat]; omega) hlocks
  obtain ⟨f1, f2⟩ := vx_frame hsame
  rw [hhp] at f1 f2
  have hWs : s.WarmedH U.vm := State.WarmedH.trans hW0 hW
  have hcl : s.vm.findClass cls = some ce.cls := by
    have h9 := hO.cls
    rw [hvm] at h9
    exact h9
  have hall : s.sameButNew ({ U with vm := s.vm } : State) locs mc ms := by
    subst hA
    obtain ⟨e1, e2⟩ := hsame
    rw [State.setFrames_setFrames] at e1
    have h2 : (T.setVm s.vm).sameButNew ({ U with vm := s.vm } : State) [] (0 + 1) (0 + 6) := ⟨e1, e2⟩
    have h3 := X.same.trans h2
    rw [List.append_nil] at h3
    exact h3.mono hc hs
  refine ⟨U, ?_, .threw T.heap.size, hrun, hend, Or.inr ⟨T.heap.size, rfl, cls, ce, locs, hx U hWs.alike f1 (fun q hq => f2 q hq (fun z hz => nomatch hz)), hce, hO.vm, hcl, hWs, hall, hf⟩⟩
  refine st1 _ ?_
  show Steps p.tables e below (T1.setTop { method := m, pc := pc + 3, locals := ls, stack := .ref T.heap.size :: rest, locked := none }) _
  jvm_step X₁.here [X₁.here.top, hexec, d3', Value.category]
  exact X₁.ldcStringW hexec (own := own) (text := text) (index := is) (a := sa) hown' hstr'.1 hstr'.2
    (g := { method := m, pc := pc + 4, locals := ls, stack := .ref T.heap.size :: .ref T.heap.size :: rest, locked := none }) rfl d4' _ hsteps
end Ends
section Bodies
variable {l : Launch}
theorem vx_ofW {y : MethodName} {ws ws' : List Cond} {rm : Room} {Pc : Array Value → State → Prop} {Qc : Array Value → State → Outcome → State → Prop} {XC : String → State → State → Prop} {mc ms : Nat} {free : Addr → Prop} {cc : ByteArray} {maxL : Nat} {ret : Option FieldType}
    (hy : plainName y.cls = true) (hw : ws = Cond.code y cc maxL ret :: ws')
    (body : ∀ p e s m args below meth c s₁, BodyLoose p l y (headSpec ws rm) cc maxL ret e s m args below meth c s₁ → c.maxLocals = maxL → (∀ x ∈ c.exceptionTable.toList, False) → Pc args s →
      W p l e (headSpec ws rm).room s m args below meth c s.heap [] 0 0 (vx_MQ below Qc XC args s mc ms free) (entryFrame m args maxL)) : vx_Met l y ws rm Pc Qc XC mc ms free := by
  refine MetFree.of_bodyS (code := cc) (maxLocals := maxL) (ret := ret) hy ?_ ?_
  · intro args s m h hn
    obtain ⟨meth, c, h1, h2, h3, h4, h5, h6, -, -⟩ := Cond.code_spec hn (atoms_spec (ws := ws) h _ (by rw [hw]; exact List.mem_cons_self))
    exact ⟨meth, c, h1, h2, h3, h4, h5, h6⟩
  · intro p e s m args below meth c s₁ B hml hP _
    have hh0 : s₁.heap = s.heap := by rw [B.state]; rfl
    have ht : ∀ x ∈ c.exceptionTable.toList, False := by
      obtain ⟨meth9, c9, h1, h2, -, -, -, -, h7, -⟩ := Cond.code_spec B.named (atoms_spec (ws := ws) B.pre _ (by rw [hw]; exact List.mem_cons_self))
      cases Option.some.inj (h1.symm.trans B.method)
      cases Option.some.inj (h2.symm.trans (Stand.of_body B).code)
      intro x hx
      rw [Array.isEmpty_iff.mp h7] at hx
      cases hx
    obtain ⟨t, a1, o, b1, b2, b3⟩ := body p e s m args below meth c s₁ B hml ht hP s₁ hh0 (Stand.of_body B)
    exact ⟨t, o, a1, b1, b2, b3⟩
/-- the table of a body with handlers -/
theorem vx_table {p : Program} {x y : MethodName} {S : Spec} {cc bytes : ByteArray} {maxL maxL' : Nat} {ret ret' : Option FieldType} {e : Env} {s s₁ : State} {m : MethodId} {args : Array Value} {below : List Frame} {meth : Method} {c : Code} {hh : List (Nat × Nat × Nat × Nat)}
    (B : BodyLoose p l y S cc maxL ret e s m args below meth c s₁) (h : (Cond.codeWith y bytes maxL' ret' hh).before args s = true) : c.exceptionTable.toList = tableOf hh := by
  obtain ⟨m9, meth9, c9, hn9, h1, h2, -, -, h6, -⟩ := Cond.codeWith_spec h
  cases Option.some.inj (hn9.symm.trans B.named)
  cases Option.some.inj (h1.symm.trans B.method)
  cases Option.some.inj (h2.symm.trans (Stand.of_body B).code)
  rw [← h6, table_eq]
end Bodies
end VXA
/-! ===== END ===== -/
/-! ===== BEGIN a static call of a method with an exception table ===== -/
section VXS
variable {p : Program} {l : Launch} {e : Env} {R : Room} {s : State} {m : MethodId} {args : Array Value} {below : List Frame} {meth : Method} {c : Code} {T : State} {H : Heap} {locs : List Loc} {cells slots : Nat}
abbrev vx_CSW (R : Room) (s : State) (args : Array Value) (own : String) (index : Nat) (y : MethodName) (bytes : ByteArray) (maxL : Nat) (ret : Option FieldType) (hh : List (Nat × Nat × Nat × Nat)) (ws : List Cond) (rm : Room) (mc ms n : Nat) : Prop :=
  (rm.cells = mc ∧ rm.slots = ms ∧ rm.frames + 1 ≤ R.frames ∧ 8 + (maxL + 11) + rm.locals ≤ R.locals ∧ (∀ w ∈ ws, ∀ (a' : Array Value) (U : State), s.WarmedH U.vm → w.before a' U = true) ∧ Cond.codeWith y bytes maxL ret hh ∈ ws) ∧
  (Cond.codeWith y bytes maxL ret hh).before args s = true ∧ (Cond.initialized y.cls).before args s = true ∧ (y.cls ≠ "java/lang/invoke/MethodHandle" ∧ y.cls ≠ "java/lang/invoke/VarHandle") ∧
  (∀ sig, parseMethodDescriptor y.desc = some sig → n = sig.parameters.length) ∧ (Cond.methodLink own index y).before args s = true ∧ (Cond.static y).before args s = true
theorem vx_cwSW {own : String} {index maxL mc ms : Nat} {y : MethodName} {bytes : ByteArray} {ret : Option FieldType} {hh : List (Nat × Nat × Nat × Nat)} {Ts ws ws' : List Cond} {rm : Room} (n : Nat) (ht : ∀ w ∈ Ts, w.before args s = true) (hT : GoodIn Ts (va_wsS own index y ws)) (hw : ws = Cond.codeWith y bytes maxL ret hh :: ws') (hrc : rm.cells = mc) (hrs : rm.slots = ms)
    (hd : y.cls ≠ "java/lang/invoke/MethodHandle" ∧ y.cls ≠ "java/lang/invoke/VarHandle" ∧ (parseMethodDescriptor y.desc).map (fun d => d.parameters.length) = some n) (hR : rm.frames + 1 ≤ R.frames ∧ 8 + (maxL + 11) + rm.locals ≤ R.locals) :
    vx_CSW R s args own index y bytes maxL ret hh ws rm mc ms n := by
  have ok : ∀ w ∈ va_wsS own index y ws, w.before args s = true := fun w h => ht w (hT w h).1
  have hG : GoodIn Ts ws := fun w h => hT w (by unfold va_wsS; exact List.mem_append_right _ h)
  have hc : Cond.codeWith y bytes maxL ret hh ∈ ws := by rw [hw]; exact List.mem_cons_self
  refine ⟨⟨hrc, hrs, hR.1, hR.2, pay_in ht hG, hc⟩, ht _ (hG _ hc).1, ok _ (by simp [va_wsS]), ⟨hd.1, hd.2.1⟩, fun sig h => ?_, ok _ (by simp [va_wsS]), ok _ (by simp [va_wsS])⟩
  have h2 := hd.2.2
  rw [h] at h2
  exact (Option.some.inj h2).symm
theorem vx_callSW (X : Stand p l e R s m args below meth c T locs cells slots) (hexec : p.tables.exec = Jvm.exec) {own : String} {index : Nat} {y : MethodName} {bytes : ByteArray} {maxL : Nat} {ret : Option FieldType} {hh : List (Nat × Nat × Nat × Nat)}
    (hown : s.vm.findClass own = some m.cls) (hlink : (Cond.methodLink own index y).before args s = true) (hstat : (Cond.static y).before args s = true) (hinit : (Cond.initialized y.cls).before args s = true)
    (hcode : (Cond.codeWith y bytes maxL ret hh).before args s = true) (hy : y.cls ≠ "java/lang/invoke/MethodHandle" ∧ y.cls ≠ "java/lang/invoke/VarHandle")
    {W9 : Nat} {Pre : Pt → Array Value → Prop} {Post : Pt → Array Value → Option Value → Pt → Prop} (hK : Back l R p e below s args y 3 W9 Pre Post)
    {g : JFrame} (hg : g.method = m) (hsize : g.locals.size = c.maxLocals) {argsL rest : List Value} (hlen : ∀ sig, parseMethodDescriptor y.desc = some sig → argsL.length = sig.parameters.length)
    (hstack : g.stack = argsL.reverse ++ rest) (hW : 2 * g.monitorRoom + (rest.map fun v => v.category).sum ≤ W9) (hdg : decode c.code g.pc = .ok (.invokestatic index, 3))
    (hpre : ∀ vm₁, s.WarmedH vm₁ → Pre ⟨T.setVm vm₁, locs, cells, slots⟩ argsL.toArray) :
    ∃ (v : Option Value) (vm₁ : Vm) (B : Pt), s.WarmedH vm₁ ∧ Stand p l e R s m args below meth c B.U B.locs B.cells B.slots ∧ Post ⟨T.setVm vm₁, locs, cells, slots⟩ argsL.toArray v B ∧
      ∀ target, Steps p.tables e below (B.U.setTop { g with pc := g.pc + 3, stack := v.toList ++ rest }) target → Steps p.tables e below (T.setTop g) target := by
  obtain ⟨mk, methM, cM, hnamed, hmethM, -, -, -, -, -, -, hsigM⟩ := Cond.codeWith_spec hcode
  have hstatic : methM.isStatic = true := Cond.static_spec hnamed hmethM hstat
  obtain ⟨kP, hkP, -⟩ := className_of_methodNamed hnamed
  have hinitP : kP.init = .initialized := Cond.initialized_spec (findClass_of_methodNamed hnamed) hkP hinit
  obtain ⟨vm₁, X₁, hstep₁⟩ := X.invokestatic hexec hown hlink hnamed hmethM hstatic hkP hinitP hy (g := g) hg (argsL := argsL) (rest := rest) (hlen _ hsigM) hstack hdg
  obtain ⟨v, B, X', hpost, hsteps⟩ := hK m meth c ⟨T.setVm vm₁, locs, cells, slots⟩ { g with stack := rest } (.invokestatic index) mk argsL.toArray X₁ hg hsize hdg hW (X₁.named hnamed) (hpre vm₁ X₁.warmed)
  exact ⟨v, vm₁, B, X₁.warmed, X', hpost, fun target h => hstep₁ _ fun acts => by rw [doInvoke_state]; exact hsteps.trans h⟩
theorem vx_runSW {y : MethodName} {bytes cc : ByteArray} {maxL nL mc ms n index : Nat} {ret : Option FieldType} {hh : List (Nat × Nat × Nat × Nat)} {ws : List Cond} {rm : Room} {Pc : Array Value → State → Prop} {Qc : Array Value → State → Outcome → State → Prop} {free : Addr → Prop} {Ts : List Cond} {own : String} {As rest : List Value} {g : JFrame}
    (S : CallFix p m c cc nL s args Ts own) (hM : Met l y ws rm Pc Qc mc ms free) (cw : vx_CSW R s args own index y bytes maxL ret hh ws rm mc ms n) (hp : PreS s H Pc As)
    (hg : g.method = m) (hn : As.length = n) (hsize : g.locals.size = nL) (hstack : g.stack = As.reverse ++ rest) (hW : 2 * g.monitorRoom + (rest.map fun v => v.category).sum ≤ 8) (hdg : decode cc g.pc = .ok (.invokestatic index, 3)) (hf : cells + mc ≤ R.cells ∧ slots + ms ≤ R.slots) :
    va_Run p l e R s m args below meth c H locs cells slots mc ms g rest (Qc As.toArray) (free) := by
  obtain ⟨⟨hrc, hrs, hfr, hlo, hws, hcw⟩, hcode, hini, hy, hlen, hl, hstt⟩ := cw
  have hK : Back l R p e below s args y 3 8 (PreOf R mc ms Pc) (PostOf Qc mc ms free) := va_backW (hh := hh) (bytes := bytes) (maxL := maxL) (ret := ret) hM hp.1 hrc hrs hfr hlo hws hcw (fun a' U hW => word_at hW (Or.inl (by first | rfl | simp [Cond.onTables, Cond.keeps, Cond.steady])) hini)
  obtain ⟨hx, hb, hml, ho, -⟩ := S
  intro T hT X
  obtain ⟨v, vm₁, ⟨U', l2, c2, s2⟩, hW₁, X', ⟨g', mk, t, L, e1, e2, hq, h1, hL, h2, h3⟩, st⟩ := vx_callSW X hx (hh := hh) (bytes := bytes) (maxL := maxL) (ret := ret) ho hl hstt hini hcode hy hK hg (hsize.trans hml.symm) (argsL := As) (rest := rest) (fun sig h => hn.trans (hlen sig h)) hstack hW (by rw [hb]; exact hdg)
    (fun vm₁ hW₁ => ⟨hf.1, hf.2, hp.2 (T.setVm vm₁) hT hW₁⟩)
  dsimp only [Pt.U, Pt.locs, Pt.cells, Pt.slots] at X' e1 e2 h1 h2 h3 st
  subst h1; subst h2; subst h3
  exact ⟨v, (T.setVm vm₁).calling g' mk As.toArray, t, U', L, hT, X', hL, e1, e2, hq, st⟩
/-- not caught here, past rows that name other classes: it goes on to the caller -/
theorem vx_outP {p : Program} {l : Launch} {e : Env} {R : Room} {s : State} {m : MethodId} {args : Array Value} {below : List Frame} {meth : Method} {c : Code} {H : Heap} {locs : List Loc} {cells slots : Nat} {free : Addr → Prop} {ls : Array Slot} {rest : List Value} {Qc : Array Value → State → Outcome → State → Prop} {XC : String → State → State → Prop}
    {pc : Nat} {own E : String} {ce : Cell} {q : Addr} {mc ms : Nat} (hown : s.vm.findClass own = some m.cls) (hlocks : meth.locks = false)
    (hpass : ∀ z ∈ c.exceptionTable.toList, covers z pc = false ∨ (z.catchType ≠ 0 ∧ ∃ nm : String, (Cond.classLink own z.catchType nm).before args s = true ∧ va_Nc E nm s)) (hcell : H[q]? = some ce) (hv : ce.vm = .none) (hcl : s.vm.findClass E = some ce.cls)
    (hx : ∀ t : State, t.heap = H → s.vm.Alike t.vm → XC E s t) (hf : ∀ z ∈ locs, free z.base) (hc : cells ≤ mc) (hs : slots ≤ ms) :
    vx_W p l e R s m args below meth c H locs cells slots (vx_MQ below Qc XC args s mc ms free) (F0 m pc ls rest) q := by
  intro T hT X
  have hpl : e.platform.magicAccessors = ({} : Platform).magicAccessors := by rw [X.admits.platform]
  obtain ⟨vm', hW', X', st⟩ := X.outThrough hlocks q (g := F0 m pc ls rest) rfl rfl rfl (cell := ce) (by rw [hT]; exact hcell) (by rw [hv]; rfl)
    (by obtain ⟨k9, h9, -⟩ := Vm.findClass_spec hcl; exact ⟨k9, h9⟩) (fun z hz => by
      rcases hpass z hz with h | ⟨hz0, nm, hl1, hn1⟩
      · exact Or.inl h
      · obtain ⟨c6, hc6, hcl6⟩ := Cond.classLink_spec hown hl1 e.platform hpl
        obtain ⟨a8, b8, h1, h2, h3⟩ := hn1
        cases Option.some.inj (h1.symm.trans hcl)
        cases Option.some.inj (h2.symm.trans hc6)
        exact Or.inr ⟨hz0, _, hcl6, h3⟩)
  obtain ⟨g₀, hfr⟩ := X'.frames_eq
  have hcell9 : ((T.setVm vm').setFrames (.throwing q :: below)).heap[q]? = some ce := by
    show T.heap[q]? = some ce
    rw [hT]; exact hcell
  have hend : Ended ((T.setVm vm').setFrames (.throwing q :: below)) below (.threw q) := State.frames_setFrames _ (State.cur_lt_of_frames hfr)
  refine ⟨(T.setVm vm').setFrames (.throwing q :: below), ?_, .threw q, X'.here.running, hend, Or.inr ⟨q, rfl, E, ce, locs, hx _ hT (X'.ends _).1.alike, hcell9, hv, hcl, (X'.ends _).1, (X'.ends _).2.mono hc hs, hf⟩⟩
  rw [X.pushThrowing_eq]
  exact st
/-- a thing of a world lies in the heap -/
theorem vx_lt {D : va_G} {cl : List vw_C} {ws : va_W} {H1 : Heap} (h : va_P D cl ws H1) {k : Nat} {q : Nat × va_E} (hk : ws[k]? = some q) : q.1 < H1.size := (h k q hk).lt
end VXS
/-! ===== END ===== -/
/-! ===== BEGIN methods with a table of their own: called by a name, returning or throwing ===== -/
section VXH
/-! vx_backW, vx_callVX, vx_callSX, vx_callVW, vx_runVW, vx_runVX, vx_runSX, vx_ofWH follow the same proofs as their sisters above (Free/Laws.lean, Shelf42/LK1.lean); vx_outP calls Shelf42/NT130.lean (outThrough). -/
section
variable {l : Launch} {R : Room} {p : Program} {e : Env} {below : List Frame} {s : State} {sargs : Array Value} {y : MethodName} {len W9 : Nat}
theorem vx_backW {ws : List Cond} {rm : Room} {Pc : Array Value → State → Prop} {Qc : Array Value → State → Outcome → State → Prop} {XC : String → State → State → Prop} {mc ms : Nat} {free : Addr → Prop} {bytes : ByteArray} {maxL : Nat} {ret : Option FieldType} {hh : List (Nat × Nat × Nat × Nat)}
    (hM : vx_Met l y ws rm Pc Qc XC mc ms free) (hblind : FrameBlind Pc) (hrc : rm.cells = mc) (hrs : rm.slots = ms)
    (hframes : rm.frames + 1 ≤ R.frames) (hlocals : W9 + (maxL + 11) + rm.locals ≤ R.locals)
    (hws : ∀ w ∈ ws, ∀ a' U, s.WarmedH U.vm → w.before a' U = true) (hcode : Cond.codeWith y bytes maxL ret hh ∈ ws) (hinit : ∀ a' U, s.WarmedH U.vm → (Cond.initialized y.cls).before a' U = true) :
    vx_Back l R p e below s sargs y len W9 (PreOf R mc ms Pc) (PostOf Qc mc ms free) (vx_Post XC mc ms free) := by
  intro m meth c A g ig mk a X hg hsize hdg hW hn hp
  have h1 : (headSpec ws rm).pre.before a A.U = true := atoms_intro fun w hw => hws w hw _ _ X.warmed
  have h2 : (Cond.codeWith y bytes maxL ret hh).before a A.U = true := hws _ hcode _ _ X.warmed
  have h3 : (Cond.initialized y.cls).before a A.U = true := hinit _ _ X.warmed
  have h4 : A.cells + (headSpec ws rm).room.cells ≤ R.cells := by rw [show (headSpec ws rm).room.cells = mc from hrc]; exact hp.1
  have h5 : A.slots + (headSpec ws rm).room.slots ≤ R.slots := by rw [show (headSpec ws rm).room.slots = ms from hrs]; exact hp.2.1
  have hPc : Pc a (A.U.calling g mk a) := hblind _ _ _ _ hp.2.2
  obtain ⟨U, Ls, c0, s0⟩ := A
  dsimp only [Pt.U, Pt.locs, Pt.cells, Pt.slots] at h1 h2 h3 h4 h5 X hn hPc ⊢
  obtain ⟨m9, methY, cY, hn9, hmY, hcY, -, hlY, -⟩ := Cond.codeWith_spec h2
  cases Option.some.inj (hn9.symm.trans hn)
  obtain ⟨kY, hkY, -⟩ := className_of_methodNamed hn
  have hinitY : kY.init = .initialized := Cond.initialized_spec (findClass_of_methodNamed hn) hkY h3
  have h : At U g.method c below := by rw [hg]; exact X.here
  have hlocals9 : W9 + (maxL + 11) + (headSpec ws rm).room.locals ≤ R.locals := hlocals
  have happ : (headSpec ws rm).appliesLoose y e.platform (U.calling g mk a) = true :=
    Spec.appliesLoose_calling (g := g) h hdg hn hkY hinitY
      (X.room_calling (g := g) (R' := (headSpec ws rm).room) hsize hmY hcY hframes (by rw [hlY]; omega) h4 h5) h1
  obtain ⟨mid, hmid⟩ := h.above
  have hfr : (U.setTop g).frames = (.java g :: mid) ++ below := by rw [State.frames_setTop' g h.top, hmid]; rfl
  obtain ⟨o, s₂, hsteps, -, hend, hq⟩ := Steps.callFree hM p X.admits X.cas X.clock (acts := []) hfr happ hPc trivial
  have hq' : vx_Q Qc XC mc ms free a (U.calling g mk a) o s₂ := hq
  rw [State.frames_setTop' g h.top] at hend
  obtain ⟨g₀, hg0⟩ := Option.isSome_iff_exists.mp h.top
  obtain ⟨r, hr⟩ := State.topJava?_eq_some.mp hg0
  have hr' : (({ U with heap := s₂.heap, slotsUsed := s₂.slotsUsed } : State).setVm s₂.vm).frames = .java g₀ :: r := hr
  rcases hq' with ⟨hqc, L, hfe, hL⟩ | ⟨q, rfl, E, ce, L, hx, hce, hcv, hcl, hW₂, hsm, hL⟩
  · obtain ⟨⟨v, rfl⟩, hW₂, e2, q2, q3, q4, q5, q6⟩ := id hfe
    have e3 : s₂ = ({ (U.calling g mk a).setFrames s₂.frames with heap := s₂.heap, slotsUsed := s₂.slotsUsed } : State).setVm s₂.vm := by
      have : s₂ = ({ s₂ with vm := (U.calling g mk a).vm } : State).setVm s₂.vm := rfl
      rw [e2] at this
      exact this
    obtain ⟨c₂, i₂, len₂, hc₂, hd₂, hf₂⟩ := hend
    have hW' : U.WarmedH s₂.vm := hW₂
    have hcc : c₂ = c := by
      have h1 : s₂.code? g.method = U.code? g.method := by
        rw [State.code?_eq, State.code?_eq, hW'.alike.method?]
      exact Option.some.inj (hc₂.symm.trans (h1.trans h.code))
    subst hcc
    have hlen : len₂ = len := by rw [hdg] at hd₂; cases hd₂; rfl
    subst hlen
    have hs₂ : s₂ = (({ U with heap := s₂.heap, slotsUsed := s₂.slotsUsed } : State).setVm s₂.vm).setTop { g with pc := g.pc + len₂, stack := v.toList ++ g.stack } := by
      refine e3.trans ?_
      rw [hf₂, State.calling_eq h.top, State.setFrames_setFrames, State.setTop_of_frames _ hr', hr]
      rfl
    have hsame : U.sameButNew ({ U with heap := s₂.heap, slotsUsed := s₂.slotsUsed } : State) L mc ms := by
      refine ⟨?_, q2, q3, q4, q5, q6⟩
      obtain ⟨t, ht, -⟩ := State.frames_cons hr
      show ({ U with heap := s₂.heap, slotsUsed := s₂.slotsUsed } : State) = { U.setFrames U.frames with heap := s₂.heap, slotsUsed := s₂.slotsUsed }
      rw [State.setFrames_self ht]
    subst hg
    refine Or.inl ⟨v, ⟨(({ U with heap := s₂.heap, slotsUsed := s₂.slotsUsed } : State).setVm s₂.vm), Ls ++ L, c0 + mc, s0 + ms⟩,
      ⟨X.admits, X.cas, X.clock, X.frames, X.room, X.hears, X.method, X.code, (X.here.setHeapUsed s₂.heap s₂.slotsUsed).setVm hW'.alike, X.tail, State.WarmedH.trans X.warmed hW', X.limits, X.bytes, X.same.trans (hsame.setVm s.vm)⟩,
      ⟨g, mk, s₂, L, rfl, rfl, hqc, rfl, hL, rfl, rfl⟩, ?_⟩
    show Steps p.tables e below _ ((({ U with heap := s₂.heap, slotsUsed := s₂.slotsUsed } : State).setVm s₂.vm).setTop { g with pc := g.pc + len₂, stack := v.toList ++ g.stack })
    rw [← hs₂]
    exact hsteps
  · obtain ⟨e2, q2, q3, q4, q5, q6⟩ := id hsm
    have e3 : s₂ = ({ (U.calling g mk a).setFrames s₂.frames with heap := s₂.heap, slotsUsed := s₂.slotsUsed } : State).setVm s₂.vm := by
      have : s₂ = ({ s₂ with vm := (U.calling g mk a).vm } : State).setVm s₂.vm := rfl
      rw [e2] at this
      exact this
    have hf₂ : s₂.frames = .throwing q :: .java g :: U.frames.tail := hend
    have hW' : U.WarmedH s₂.vm := hW₂
    have hs₂ : s₂ = ((({ U with heap := s₂.heap, slotsUsed := s₂.slotsUsed } : State).setVm s₂.vm).setTop g).pushFrame (.throwing q) := by
      refine e3.trans ?_
      rw [hf₂, State.calling_eq h.top, State.setFrames_setFrames, State.pushFrame, State.frames_setTop _ hr', State.setTop_of_frames _ hr', State.setFrames_setFrames, hr]
      rfl
    have hsame : U.sameButNew ({ U with heap := s₂.heap, slotsUsed := s₂.slotsUsed } : State) L mc ms := by
      refine ⟨?_, q2, q3, q4, q5, q6⟩
      obtain ⟨t, ht, -⟩ := State.frames_cons hr
      show ({ U with heap := s₂.heap, slotsUsed := s₂.slotsUsed } : State) = { U.setFrames U.frames with heap := s₂.heap, slotsUsed := s₂.slotsUsed }
      rw [State.setFrames_self ht]
    subst hg
    refine Or.inr ⟨q, ⟨(({ U with heap := s₂.heap, slotsUsed := s₂.slotsUsed } : State).setVm s₂.vm), Ls ++ L, c0 + mc, s0 + ms⟩,
      ⟨X.admits, X.cas, X.clock, X.frames, X.room, X.hears, X.method, X.code, (X.here.setHeapUsed s₂.heap s₂.slotsUsed).setVm hW'.alike, X.tail, State.WarmedH.trans X.warmed hW', X.limits, X.bytes, X.same.trans (hsame.setVm s.vm)⟩,
      ⟨g, mk, s₂, L, E, ce, rfl, rfl, hx, hce, hcv, hcl, rfl, hL, rfl, rfl⟩, ?_⟩
    show Steps p.tables e below _ (((({ U with heap := s₂.heap, slotsUsed := s₂.slotsUsed } : State).setVm s₂.vm).setTop g).pushFrame (.throwing q))
    rw [← hs₂]
    exact hsteps
end
variable {p : Program} {l : Launch} {e : Env} {R : Room} {s : State} {m : MethodId} {args : Array Value} {below : List Frame} {meth : Method} {c : Code} {T : State} {H : Heap} {locs : List Loc} {cells slots : Nat}
theorem vx_callVX (X : Stand p l e R s m args below meth c T locs cells slots) (hexec : p.tables.exec = Jvm.exec) {own C : String} {index : Nat} {y : MethodName} {bytes : ByteArray} {maxL : Nat} {ret : Option FieldType} {hh : List (Nat × Nat × Nat × Nat)}
    (hown : s.vm.findClass own = some m.cls) (hlink : (Cond.methodLink own index y).before args s = true) (hinst : (Cond.instanceMethod y).before args s = true) (hsel : (Cond.selects C y y).before args s = true)
    (hcode : (Cond.codeWith y bytes maxL ret hh).before args s = true) (hy : y.cls ≠ "java/lang/invoke/MethodHandle" ∧ y.cls ≠ "java/lang/invoke/VarHandle")
    {W9 : Nat} {Pre : Pt → Array Value → Prop} {Post : Pt → Array Value → Option Value → Pt → Prop} {PostX : Pt → Array Value → Addr → Pt → Prop} (hK : vx_Back l R p e below s args y 3 W9 Pre Post PostX)
    {b : Addr} {cellB : Cell} (hcell : T.heap[b]? = some cellB) (hobj : cellB.vm.isStatics = false) (hcls : s.vm.findClass C = some cellB.cls)
    {g : JFrame} (hg : g.method = m) (hsize : g.locals.size = c.maxLocals) {argsL rest : List Value} (hlen : ∀ sig, parseMethodDescriptor y.desc = some sig → argsL.length = sig.parameters.length)
    (hstack : g.stack = argsL.reverse ++ .ref b :: rest) (hW : 2 * g.monitorRoom + (rest.map fun v => v.category).sum ≤ W9) (hdg : decode c.code g.pc = .ok (.invokevirtual index, 3))
    (hpre : ∀ vm₁, s.WarmedH vm₁ → Pre ⟨T.setVm vm₁, locs, cells, slots⟩ (Value.ref b :: argsL).toArray) :
    (∃ (v : Option Value) (vm₁ : Vm) (B : Pt), s.WarmedH vm₁ ∧ Stand p l e R s m args below meth c B.U B.locs B.cells B.slots ∧ Post ⟨T.setVm vm₁, locs, cells, slots⟩ (Value.ref b :: argsL).toArray v B ∧
      ∀ target, Steps p.tables e below (B.U.setTop { g with pc := g.pc + 3, stack := v.toList ++ rest }) target → Steps p.tables e below (T.setTop g) target) ∨
    (∃ (q : Addr) (vm₁ : Vm) (B : Pt), s.WarmedH vm₁ ∧ Stand p l e R s m args below meth c B.U B.locs B.cells B.slots ∧ PostX ⟨T.setVm vm₁, locs, cells, slots⟩ (Value.ref b :: argsL).toArray q B ∧
      Steps p.tables e below (T.setTop g) ((B.U.setTop { g with stack := rest }).pushFrame (.throwing q))) := by
  obtain ⟨mk, methM, hnamed, hmethM, hstM, habM⟩ := Cond.instanceMethod_spec hinst
  obtain ⟨m8, methM', cM, hn8, hmethM', -, -, -, -, -, -, hsigM⟩ := Cond.codeWith_spec hcode
  cases Option.some.inj (hn8.symm.trans hnamed)
  cases hmethM.symm.trans hmethM'
  obtain ⟨c2, r2, m2, q1, q2, q3, q4, kP, hkP, hkPi⟩ := Cond.selects_spec hsel
  cases hcls.symm.trans q1
  cases (State.methodFound?_of_named hnamed hy).symm.trans q2
  cases hnamed.symm.trans q3
  have hselP : selectMethod e.platform s.vm cellB.cls mk = .method mk := by rw [Launch.admits_selectMethod X.admits]; exact q4
  obtain ⟨vm₁, X₁, hstep₁⟩ := X.invokevirtual hexec hown hlink hnamed hmethM hstM hkP hkPi hy (a := b) (cell := cellB) hcell
    (fun z h => by rw [h] at hobj; cases hobj) hselP hmethM habM hkP hkPi (g := g) hg (argsL := argsL) (rest := rest) (hlen _ hsigM) hstack hdg
  rcases hK m meth c ⟨T.setVm vm₁, locs, cells, slots⟩ { g with stack := rest } (.invokevirtual index) mk (Value.ref b :: argsL).toArray X₁ hg hsize hdg hW (X₁.named hnamed) (hpre vm₁ X₁.warmed) with ⟨v, B, X', hpost, hsteps⟩ | ⟨q, B, X', hpost, hsteps⟩
  · exact Or.inl ⟨v, vm₁, B, X₁.warmed, X', hpost, fun target h => hstep₁ _ fun acts => by rw [doInvoke_state]; exact hsteps.trans h⟩
  · exact Or.inr ⟨q, vm₁, B, X₁.warmed, X', hpost, hstep₁ _ fun acts => by rw [doInvoke_state]; exact hsteps⟩
theorem vx_callSX (X : Stand p l e R s m args below meth c T locs cells slots) (hexec : p.tables.exec = Jvm.exec) {own : String} {index : Nat} {y : MethodName} {bytes : ByteArray} {maxL : Nat} {ret : Option FieldType} {hh : List (Nat × Nat × Nat × Nat)}
    (hown : s.vm.findClass own = some m.cls) (hlink : (Cond.methodLink own index y).before args s = true) (hstat : (Cond.static y).before args s = true) (hinit : (Cond.initialized y.cls).before args s = true)
    (hcode : (Cond.codeWith y bytes maxL ret hh).before args s = true) (hy : y.cls ≠ "java/lang/invoke/MethodHandle" ∧ y.cls ≠ "java/lang/invoke/VarHandle")
    {W9 : Nat} {Pre : Pt → Array Value → Prop} {Post : Pt → Array Value → Option Value → Pt → Prop} {PostX : Pt → Array Value → Addr → Pt → Prop} (hK : vx_Back l R p e below s args y 3 W9 Pre Post PostX)
    {g : JFrame} (hg : g.method = m) (hsize : g.locals.size = c.maxLocals) {argsL rest : List Value} (hlen : ∀ sig, parseMethodDescriptor y.desc = some sig → argsL.length = sig.parameters.length)
    (hstack : g.stack = argsL.reverse ++ rest) (hW : 2 * g.monitorRoom + (rest.map fun v => v.category).sum ≤ W9) (hdg : decode c.code g.pc = .ok (.invokestatic index, 3))
    (hpre : ∀ vm₁, s.WarmedH vm₁ → Pre ⟨T.setVm vm₁, locs, cells, slots⟩ argsL.toArray) :
    (∃ (v : Option Value) (vm₁ : Vm) (B : Pt), s.WarmedH vm₁ ∧ Stand p l e R s m args below meth c B.U B.locs B.cells B.slots ∧ Post ⟨T.setVm vm₁, locs, cells, slots⟩ argsL.toArray v B ∧
      ∀ target, Steps p.tables e below (B.U.setTop { g with pc := g.pc + 3, stack := v.toList ++ rest }) target → Steps p.tables e below (T.setTop g) target) ∨
    (∃ (q : Addr) (vm₁ : Vm) (B : Pt), s.WarmedH vm₁ ∧ Stand p l e R s m args below meth c B.U B.locs B.cells B.slots ∧ PostX ⟨T.setVm vm₁, locs, cells, slots⟩ argsL.toArray q B ∧
      Steps p.tables e below (T.setTop g) ((B.U.setTop { g with stack := rest }).pushFrame (.throwing q))) := by
  obtain ⟨mk, methM, cM, hnamed, hmethM, -, -, -, -, -, -, hsigM⟩ := Cond.codeWith_spec hcode
  have hstatic : methM.isStatic = true := Cond.static_spec hnamed hmethM hstat
  obtain ⟨kP, hkP, -⟩ := className_of_methodNamed hnamed
  have hinitP : kP.init = .initialized := Cond.initialized_spec (findClass_of_methodNamed hnamed) hkP hinit
  obtain ⟨vm₁, X₁, hstep₁⟩ := X.invokestatic hexec hown hlink hnamed hmethM hstatic hkP hinitP hy (g := g) hg (argsL := argsL) (rest := rest) (hlen _ hsigM) hstack hdg
  rcases hK m meth c ⟨T.setVm vm₁, locs, cells, slots⟩ { g with stack := rest } (.invokestatic index) mk argsL.toArray X₁ hg hsize hdg hW (X₁.named hnamed) (hpre vm₁ X₁.warmed) with ⟨v, B, X', hpost, hsteps⟩ | ⟨q, B, X', hpost, hsteps⟩
  · exact Or.inl ⟨v, vm₁, B, X₁.warmed, X', hpost, fun target h => hstep₁ _ fun acts => by rw [doInvoke_state]; exact hsteps.trans h⟩
  · exact Or.inr ⟨q, vm₁, B, X₁.warmed, X', hpost, hstep₁ _ fun acts => by rw [doInvoke_state]; exact hsteps⟩
theorem vx_callVW (X : Stand p l e R s m args below meth c T locs cells slots) (hexec : p.tables.exec = Jvm.exec) {own C : String} {index : Nat} {y : MethodName} {bytes : ByteArray} {maxL : Nat} {ret : Option FieldType} {hh : List (Nat × Nat × Nat × Nat)}
    (hown : s.vm.findClass own = some m.cls) (hlink : (Cond.methodLink own index y).before args s = true) (hinst : (Cond.instanceMethod y).before args s = true) (hsel : (Cond.selects C y y).before args s = true)
    (hcode : (Cond.codeWith y bytes maxL ret hh).before args s = true) (hy : y.cls ≠ "java/lang/invoke/MethodHandle" ∧ y.cls ≠ "java/lang/invoke/VarHandle")
    {W9 : Nat} {Pre : Pt → Array Value → Prop} {Post : Pt → Array Value → Option Value → Pt → Prop} (hK : Back l R p e below s args y 3 W9 Pre Post)
    {b : Addr} {cellB : Cell} (hcell : T.heap[b]? = some cellB) (hobj : cellB.vm.isStatics = false) (hcls : s.vm.findClass C = some cellB.cls)
    {g : JFrame} (hg : g.method = m) (hsize : g.locals.size = c.maxLocals) {argsL rest : List Value} (hlen : ∀ sig, parseMethodDescriptor y.desc = some sig → argsL.length = sig.parameters.length)
    (hstack : g.stack = argsL.reverse ++ .ref b :: rest) (hW : 2 * g.monitorRoom + (rest.map fun v => v.category).sum ≤ W9) (hdg : decode c.code g.pc = .ok (.invokevirtual index, 3))
    (hpre : ∀ vm₁, s.WarmedH vm₁ → Pre ⟨T.setVm vm₁, locs, cells, slots⟩ (Value.ref b :: argsL).toArray) :
    ∃ (v : Option Value) (vm₁ : Vm) (B : Pt), s.WarmedH vm₁ ∧ Stand p l e R s m args below meth c B.U B.locs B.cells B.slots ∧ Post ⟨T.setVm vm₁, locs, cells, slots⟩ (Value.ref b :: argsL).toArray v B ∧
      ∀ target, Steps p.tables e below (B.U.setTop { g with pc := g.pc + 3, stack := v.toList ++ rest }) target → Steps p.tables e below (T.setTop g) target := by
  obtain ⟨mk, methM, hnamed, hmethM, hstM, habM⟩ := Cond.instanceMethod_spec hinst
  obtain ⟨m8, methM', cM, hn8, hmethM', -, -, -, -, -, -, hsigM⟩ := Cond.codeWith_spec hcode
  cases Option.some.inj (hn8.symm.trans hnamed)
  cases hmethM.symm.trans hmethM'
  obtain ⟨c2, r2, m2, q1, q2, q3, q4, kP, hkP, hkPi⟩ := Cond.selects_spec hsel
  cases hcls.symm.trans q1
  cases (State.methodFound?_of_named hnamed hy).symm.trans q2
  cases hnamed.symm.trans q3
  have hselP : selectMethod e.platform s.vm cellB.cls mk = .method mk := by rw [Launch.admits_selectMethod X.admits]; exact q4
  obtain ⟨vm₁, X₁, hstep₁⟩ := X.invokevirtual hexec hown hlink hnamed hmethM hstM hkP hkPi hy (a := b) (cell := cellB) hcell
    (fun z h => by rw [h] at hobj; cases hobj) hselP hmethM habM hkP hkPi (g := g) hg (argsL := argsL) (rest := rest) (hlen _ hsigM) hstack hdg
  obtain ⟨v, B, X', hpost, hsteps⟩ := hK m meth c ⟨T.setVm vm₁, locs, cells, slots⟩ { g with stack := rest } (.invokevirtual index) mk (Value.ref b :: argsL).toArray X₁ hg hsize hdg hW (X₁.named hnamed) (hpre vm₁ X₁.warmed)
  exact ⟨v, vm₁, B, X₁.warmed, X', hpost, fun target h => hstep₁ _ fun acts => by rw [doInvoke_state]; exact hsteps.trans h⟩
abbrev vx_CVW (R : Room) (s : State) (args : Array Value) (own C : String) (index : Nat) (y : MethodName) (bytes : ByteArray) (maxL : Nat) (ret : Option FieldType) (hh : List (Nat × Nat × Nat × Nat)) (ws : List Cond) (rm : Room) (mc ms n : Nat) : Prop :=
  (rm.cells = mc ∧ rm.slots = ms ∧ rm.frames + 1 ≤ R.frames ∧ 8 + (maxL + 11) + rm.locals ≤ R.locals ∧ (∀ w ∈ ws, ∀ (a' : Array Value) (U : State), s.WarmedH U.vm → w.before a' U = true) ∧ Cond.codeWith y bytes maxL ret hh ∈ ws) ∧
  (Cond.codeWith y bytes maxL ret hh).before args s = true ∧ (Cond.initialized y.cls).before args s = true ∧ (y.cls ≠ "java/lang/invoke/MethodHandle" ∧ y.cls ≠ "java/lang/invoke/VarHandle") ∧
  (∀ sig, parseMethodDescriptor y.desc = some sig → n = sig.parameters.length) ∧ (Cond.methodLink own index y).before args s = true ∧ (Cond.instanceMethod y).before args s = true ∧ (Cond.selects C y y).before args s = true
theorem vx_cwVW {own C : String} {index maxL mc ms : Nat} {y : MethodName} {bytes : ByteArray} {ret : Option FieldType} {hh : List (Nat × Nat × Nat × Nat)} {Ts ws ws' : List Cond} {rm : Room} (n : Nat) (ht : ∀ w ∈ Ts, w.before args s = true) (hT : GoodIn Ts (wsV own index C y ws)) (hw : ws = Cond.codeWith y bytes maxL ret hh :: ws') (hrc : rm.cells = mc) (hrs : rm.slots = ms)
    (hd : y.cls = C ∧ y.cls ≠ "java/lang/invoke/MethodHandle" ∧ y.cls ≠ "java/lang/invoke/VarHandle" ∧ (parseMethodDescriptor y.desc).map (fun d => d.parameters.length) = some n) (hR : rm.frames + 1 ≤ R.frames ∧ 8 + (maxL + 11) + rm.locals ≤ R.locals) :
    vx_CVW R s args own C index y bytes maxL ret hh ws rm mc ms n := by
  obtain ⟨hC, hd⟩ := hd
  subst hC
  have ok : ∀ w ∈ wsV own index y.cls y ws, w.before args s = true := fun w h => ht w (hT w h).1
  have hG : GoodIn Ts ws := fun w h => hT w (by unfold wsV; exact List.mem_append_right _ h)
  have hc : Cond.codeWith y bytes maxL ret hh ∈ ws := by rw [hw]; exact List.mem_cons_self
  refine ⟨⟨hrc, hrs, hR.1, hR.2, pay_in ht hG, hc⟩, ht _ (hG _ hc).1, ok _ (by simp [wsV]), ⟨hd.1, hd.2.1⟩, fun sig h => ?_, ok _ (by simp [wsV]), ok _ (by simp [wsV]), ok _ (by simp [wsV])⟩
  have h2 := hd.2.2
  rw [h] at h2
  exact (Option.some.inj h2).symm
theorem vx_runVW {y : MethodName} {bytes cc : ByteArray} {maxL nL mc ms n index : Nat} {ret : Option FieldType} {hh : List (Nat × Nat × Nat × Nat)} {ws : List Cond} {rm : Room} {Pc : Array Value → State → Prop} {Qc : Array Value → State → Outcome → State → Prop} {free : Addr → Prop} {Ts : List Cond} {own C : String} {b : Addr} {As rest : List Value} {g : JFrame}
    (S : CallFix p m c cc nL s args Ts own) (hM : Met l y ws rm Pc Qc mc ms free) (cw : vx_CVW R s args own C index y bytes maxL ret hh ws rm mc ms n) (hp : PreV s H C b Pc As)
    (hg : g.method = m) (hn : As.length = n) (hsize : g.locals.size = nL) (hstack : g.stack = As.reverse ++ .ref b :: rest) (hW : 2 * g.monitorRoom + (rest.map fun v => v.category).sum ≤ 8) (hdg : decode cc g.pc = .ok (.invokevirtual index, 3)) (hf : cells + mc ≤ R.cells ∧ slots + ms ≤ R.slots) :
    va_Run p l e R s m args below meth c H locs cells slots mc ms g rest (Qc (Value.ref b :: As).toArray) free := by
  obtain ⟨⟨hrc, hrs, hfr, hlo, hws, hcw⟩, hcode, hini, hy, hlen, hl, hin, hse⟩ := cw
  have hK : Back l R p e below s args y 3 8 (PreOf R mc ms Pc) (PostOf Qc mc ms free) := va_backW (hh := hh) (bytes := bytes) (maxL := maxL) (ret := ret) hM hp.1 hrc hrs hfr hlo hws hcw (fun a' U hW => word_at hW (Or.inl (by first | rfl | simp [Cond.onTables, Cond.keeps, Cond.steady])) hini)
  obtain ⟨hx, hb, hml, ho, -⟩ := S
  obtain ⟨-, ⟨cellB, hcB, hoB, hclB⟩, hPc⟩ := hp
  intro T hT X
  obtain ⟨v, vm₁, ⟨U', l2, c2, s2⟩, hW₁, X', ⟨g', mk, t, L, e1, e2, hq, h1, hL, h2, h3⟩, st⟩ := vx_callVW X hx (C := C) (hh := hh) (bytes := bytes) (maxL := maxL) (ret := ret) ho hl hin hse hcode hy hK (by rw [hT]; exact hcB) hoB hclB hg (hsize.trans hml.symm) (argsL := As) (rest := rest) (fun sig h => hn.trans (hlen sig h)) hstack hW (by rw [hb]; exact hdg)
    (fun vm₁ hW₁ => ⟨hf.1, hf.2, hPc (T.setVm vm₁) hT hW₁⟩)
  dsimp only [Pt.U, Pt.locs, Pt.cells, Pt.slots] at X' e1 e2 h1 h2 h3 st
  subst h1; subst h2; subst h3
  exact ⟨v, (T.setVm vm₁).calling g' mk (Value.ref b :: As).toArray, t, U', L, hT, X', hL, e1, e2, hq, st⟩
section
variable {y : MethodName} {bytes cc : ByteArray} {maxL nL mc ms n index : Nat} {ret : Option FieldType} {ws : List Cond} {rm : Room} {Pc : Array Value → State → Prop} {Qc : Array Value → State → Outcome → State → Prop} {XC : String → State → State → Prop} {free : Addr → Prop} {Ts : List Cond} {own C : String} {b : Addr} {As rest : List Value} {g : JFrame}
theorem vx_runVX {hh : List (Nat × Nat × Nat × Nat)} (S : CallFix p m c cc nL s args Ts own) (hM : vx_Met l y ws rm Pc Qc XC mc ms free) (cw : vx_CVW R s args own C index y bytes maxL ret hh ws rm mc ms n) (hp : PreV s H C b Pc As)
    (hg : g.method = m) (hn : As.length = n) (hsize : g.locals.size = nL) (hstack : g.stack = As.reverse ++ .ref b :: rest) (hW : 2 * g.monitorRoom + (rest.map fun v => v.category).sum ≤ 8) (hdg : decode cc g.pc = .ok (.invokevirtual index, 3)) (hf : cells + mc ≤ R.cells ∧ slots + ms ≤ R.slots) :
    vx_Run p l e R s m args below meth c H locs cells slots mc ms g rest (Qc (Value.ref b :: As).toArray) XC free := by
  obtain ⟨⟨hrc, hrs, hfr, hlo, hws, hcw⟩, hcode, hini, hy, hlen, hl, hin, hse⟩ := cw
  have hK : vx_Back l R p e below s args y 3 8 (PreOf R mc ms Pc) (PostOf Qc mc ms free) (vx_Post XC mc ms free) := vx_backW (hh := hh) (bytes := bytes) (maxL := maxL) (ret := ret) hM hp.1 hrc hrs hfr hlo hws hcw (fun a' U hW => word_at hW (Or.inl (by first | rfl | simp [Cond.onTables, Cond.keeps, Cond.steady])) hini)
  obtain ⟨hx, hb, hml, ho, -⟩ := S
  obtain ⟨-, ⟨cellB, hcB, hoB, hclB⟩, hPc⟩ := hp
  intro T hT X
  rcases vx_callVX X hx (C := C) (hh := hh) (bytes := bytes) (maxL := maxL) (ret := ret) ho hl hin hse hcode hy hK (by rw [hT]; exact hcB) hoB hclB hg (hsize.trans hml.symm) (argsL := As) (rest := rest) (fun sig h => hn.trans (hlen sig h)) hstack hW (by rw [hb]; exact hdg)
    (fun vm₁ hW₁ => ⟨hf.1, hf.2, hPc (T.setVm vm₁) hT hW₁⟩) with ⟨v, vm₁, ⟨U', l2, c2, s2⟩, hW₁, X', ⟨g', mk, t, L, e1, e2, hq, h1, hL, h2, h3⟩, st⟩ | ⟨q, vm₁, ⟨U', l2, c2, s2⟩, hW₁, X', ⟨g', mk, t, L, E, ce, e1, e2, hq, hce, hcv, hcl, h1, hL, h2, h3⟩, st⟩
  · dsimp only [Pt.U, Pt.locs, Pt.cells, Pt.slots] at X' e1 e2 h1 h2 h3 st
    subst h1; subst h2; subst h3
    exact Or.inl ⟨v, (T.setVm vm₁).calling g' mk (Value.ref b :: As).toArray, t, U', L, hT, X', hL, e1, e2, hq, st⟩
  · dsimp only [Pt.U, Pt.locs, Pt.cells, Pt.slots] at X' e1 e2 h1 h2 h3 st hcl
    subst h1; subst h2; subst h3
    exact Or.inr ⟨q, (T.setVm vm₁).calling g' mk (Value.ref b :: As).toArray, t, U', L, E, ce, hT, X', hL, e1, e2, hq, hce, hcv, vx_cls hW₁ hcl, st⟩
theorem vx_runSX {hh : List (Nat × Nat × Nat × Nat)} (S : CallFix p m c cc nL s args Ts own) (hM : vx_Met l y ws rm Pc Qc XC mc ms free) (cw : vx_CSW R s args own index y bytes maxL ret hh ws rm mc ms n) (hp : PreS s H Pc As)
    (hg : g.method = m) (hn : As.length = n) (hsize : g.locals.size = nL) (hstack : g.stack = As.reverse ++ rest) (hW : 2 * g.monitorRoom + (rest.map fun v => v.category).sum ≤ 8) (hdg : decode cc g.pc = .ok (.invokestatic index, 3)) (hf : cells + mc ≤ R.cells ∧ slots + ms ≤ R.slots) :
    vx_Run p l e R s m args below meth c H locs cells slots mc ms g rest (Qc As.toArray) XC free := by
  obtain ⟨⟨hrc, hrs, hfr, hlo, hws, hcw⟩, hcode, hini, hy, hlen, hl, hstt⟩ := cw
  have hK : vx_Back l R p e below s args y 3 8 (PreOf R mc ms Pc) (PostOf Qc mc ms free) (vx_Post XC mc ms free) := vx_backW (hh := hh) (bytes := bytes) (maxL := maxL) (ret := ret) hM hp.1 hrc hrs hfr hlo hws hcw (fun a' U hW => word_at hW (Or.inl (by first | rfl | simp [Cond.onTables, Cond.keeps, Cond.steady])) hini)
  obtain ⟨hx, hb, hml, ho, -⟩ := S
  intro T hT X
  rcases vx_callSX X hx (hh := hh) (bytes := bytes) (maxL := maxL) (ret := ret) ho hl hstt hini hcode hy hK hg (hsize.trans hml.symm) (argsL := As) (rest := rest) (fun sig h => hn.trans (hlen sig h)) hstack hW (by rw [hb]; exact hdg)
    (fun vm₁ hW₁ => ⟨hf.1, hf.2, hp.2 (T.setVm vm₁) hT hW₁⟩) with ⟨v, vm₁, ⟨U', l2, c2, s2⟩, hW₁, X', ⟨g', mk, t, L, e1, e2, hq, h1, hL, h2, h3⟩, st⟩ | ⟨q, vm₁, ⟨U', l2, c2, s2⟩, hW₁, X', ⟨g', mk, t, L, E, ce, e1, e2, hq, hce, hcv, hcl, h1, hL, h2, h3⟩, st⟩
  · dsimp only [Pt.U, Pt.locs, Pt.cells, Pt.slots] at X' e1 e2 h1 h2 h3 st
    subst h1; subst h2; subst h3
    exact Or.inl ⟨v, (T.setVm vm₁).calling g' mk As.toArray, t, U', L, hT, X', hL, e1, e2, hq, st⟩
  · dsimp only [Pt.U, Pt.locs, Pt.cells, Pt.slots] at X' e1 e2 h1 h2 h3 st hcl
    subst h1; subst h2; subst h3
    exact Or.inr ⟨q, (T.setVm vm₁).calling g' mk As.toArray, t, U', L, E, ce, hT, X', hL, e1, e2, hq, hce, hcv, vx_cls hW₁ hcl, st⟩
end
end VXH
theorem vx_ofWH {l : Launch} {y : MethodName} {ws ws' : List Cond} {rm : Room} {Pc : Array Value → State → Prop} {Qc : Array Value → State → Outcome → State → Prop} {XC : String → State → State → Prop} {mc ms : Nat} {free : Addr → Prop} {cc : ByteArray} {maxL : Nat} {ret : Option FieldType} {hh : List (Nat × Nat × Nat × Nat)}
    (hy : plainName y.cls = true) (hw : ws = Cond.codeWith y cc maxL ret hh :: ws')
    (body : ∀ p e s m args below meth c s₁, BodyLoose p l y (headSpec ws rm) cc maxL ret e s m args below meth c s₁ → c.maxLocals = maxL → Pc args s →
      W p l e (headSpec ws rm).room s m args below meth c s.heap [] 0 0 (vx_MQ below Qc XC args s mc ms free) (entryFrame m args maxL)) : vx_Met l y ws rm Pc Qc XC mc ms free := by
  refine MetFree.of_bodyS (code := cc) (maxLocals := maxL) (ret := ret) hy ?_ ?_
  · intro args s m h hn
    obtain ⟨m9, meth, c, hn9, h1, h2, h3, h4, -, h5, h6, -⟩ := Cond.codeWith_spec (atoms_spec (ws := ws) h _ (by rw [hw]; exact List.mem_cons_self))
    cases hn.symm.trans hn9
    exact ⟨meth, c, h1, h2, h3, h4, h5, h6⟩
  · intro p e s m args below meth c s₁ B hml hP _
    have hh0 : s₁.heap = s.heap := by rw [B.state]; rfl
    obtain ⟨t, a1, o, b1, b2, b3⟩ := body p e s m args below meth c s₁ B hml hP s₁ hh0 (Stand.of_body B)
    exact ⟨t, o, a1, b1, b2, b3⟩
/-! ===== END ===== -/

/-! ===== names, by my own program ===== -/
def RX0 : String := "ToldRows$Desk"
def TX0 : u_T := fun k => match k with
  | 0 => ("ToldRows$Desk", "moments", "[I", true)
  | 1 => ("ToldRows$Desk", "moment", "I", false)
  | 2 => ("ToldRows$Desk", "seen", "I", false)
  | 3 => ("ToldRows$Desk", "waiting", "I", false)
  | _ => ("ToldRows$Desk", "inBatch", "Z", false)
def tyX0 : Nat → FieldType := fun k => match k with
  | 0 => .array .int
  | 1 => .int
  | 2 => .int
  | 3 => .int
  | _ => .boolean
theorem nmX0 : ∀ a, a < 5 → ∀ b, b < 5 → a ≠ b → (TX0 a).2.1 ≠ (TX0 b).2.1 := by decide +kernel
theorem tyX0_ok : ∀ k, k < 5 → parseFieldDescriptor (TX0 k).2.2.1 = some (tyX0 k) := by decide +kernel
def RX1 : String := "ToldRows$Teller"
def TX1 : u_T := fun k => match k with
  | 0 => ("ToldRows$Teller", "ownTimes", "[I", true)
  | 1 => ("ToldRows$Teller", "realTimes", "[I", true)
  | 2 => ("ToldRows$Teller", "marks", "I", false)
  | _ => ("ToldRows$Teller", "life", "I", false)
def tyX1 : Nat → FieldType := fun k => match k with
  | 0 => .array .int
  | 1 => .array .int
  | 2 => .int
  | _ => .int
theorem nmX1 : ∀ a, a < 4 → ∀ b, b < 4 → a ≠ b → (TX1 a).2.1 ≠ (TX1 b).2.1 := by decide +kernel
theorem tyX1_ok : ∀ k, k < 4 → parseFieldDescriptor (TX1 k).2.2.1 = some (tyX1 k) := by decide +kernel
def RX2 : String := "ToldRows$Tellings"
def TX2 : u_T := fun k => match k with
  | 0 => ("ToldRows$Tellings", "names", "[I", true)
  | 1 => ("ToldRows$Tellings", "tolds", "[I", true)
  | 2 => ("ToldRows$Tellings", "values", "[I", true)
  | 3 => ("ToldRows$Tellings", "settled", "[Z", true)
  | _ => ("ToldRows$Tellings", "count", "I", false)
def tyX2 : Nat → FieldType := fun k => match k with
  | 0 => .array .int
  | 1 => .array .int
  | 2 => .array .int
  | 3 => .array .boolean
  | _ => .int
theorem nmX2 : ∀ a, a < 5 → ∀ b, b < 5 → a ≠ b → (TX2 a).2.1 ≠ (TX2 b).2.1 := by decide +kernel
theorem tyX2_ok : ∀ k, k < 5 → parseFieldDescriptor (TX2 k).2.2.1 = some (tyX2 k) := by decide +kernel
def RX3 : String := "ToldRows"
def TX3 : u_T := fun k => match k with
  | 0 => ("ToldRows", "tellers", "[LToldRows$Teller;", true)
  | 1 => ("ToldRows", "desks", "[LToldRows$Desk;", true)
  | 2 => ("ToldRows", "kept", "LToldRows$Tellings;", true)
  | _ => ("ToldRows", "heard", "[Z", true)
def tyX3 : Nat → FieldType := fun k => match k with
  | 0 => .array (.object "ToldRows$Teller")
  | 1 => .array (.object "ToldRows$Desk")
  | 2 => .object "ToldRows$Tellings"
  | _ => .array .boolean
theorem nmX3 : ∀ a, a < 4 → ∀ b, b < 4 → a ≠ b → (TX3 a).2.1 ≠ (TX3 b).2.1 := by decide +kernel
theorem tyX3_ok : ∀ k, k < 4 → parseFieldDescriptor (TX3 k).2.2.1 = some (tyX3 k) := by decide +kernel
def RX4 : String := "ToldRowsModel"
def TX4 : u_T := fun k => match k with
  | 0 => ("ToldRowsModel", "thrown", "I", false)
  | 1 => ("ToldRowsModel", "life", "[I", true)
  | 2 => ("ToldRowsModel", "marks", "[I", true)
  | 3 => ("ToldRowsModel", "own", "[I", true)
  | 4 => ("ToldRowsModel", "real", "[I", true)
  | 5 => ("ToldRowsModel", "kept", "I", false)
  | 6 => ("ToldRowsModel", "teller", "[I", true)
  | 7 => ("ToldRowsModel", "lived", "[I", true)
  | 8 => ("ToldRowsModel", "number", "[I", true)
  | 9 => ("ToldRowsModel", "key", "[I", true)
  | 10 => ("ToldRowsModel", "value", "[I", true)
  | 11 => ("ToldRowsModel", "time", "[I", true)
  | 12 => ("ToldRowsModel", "settled", "[Z", true)
  | 13 => ("ToldRowsModel", "seen", "[I", true)
  | 14 => ("ToldRowsModel", "moment", "[I", true)
  | _ => ("ToldRowsModel", "open", "[Z", true)
def tyX4 : Nat → FieldType := fun k => match k with
  | 0 => .int
  | 1 => .array .int
  | 2 => .array .int
  | 3 => .array .int
  | 4 => .array .int
  | 5 => .int
  | 6 => .array .int
  | 7 => .array .int
  | 8 => .array .int
  | 9 => .array .int
  | 10 => .array .int
  | 11 => .array .int
  | 12 => .array .boolean
  | 13 => .array .int
  | 14 => .array .int
  | _ => .array .boolean
theorem nmX4 : ∀ a, a < 16 → ∀ b, b < 16 → a ≠ b → (TX4 a).2.1 ≠ (TX4 b).2.1 := by decide +kernel
theorem tyX4_ok : ∀ k, k < 16 → parseFieldDescriptor (TX4 k).2.2.1 = some (tyX4 k) := by decide +kernel
def RL : String := "ToldRowsLaw"
abbrev kcl : List vw_C := [(RX0, TX0, 5), (RX1, TX1, 4), (RX2, TX2, 5), (RX3, TX3, 4), (RX4, TX4, 16)]
def lw_G : List Cond := lw_tbl.filter goodWord
abbrev cX3_init : ByteArray := prog_1_method_1_code
def yX3_init : MethodName := ⟨RX3, "<init>", "()V"⟩
abbrev cX2_init : ByteArray := prog_4_method_1_code
def yX2_init : MethodName := ⟨RX2, "<init>", "()V"⟩
abbrev cX1_init : ByteArray := prog_3_method_1_code
def yX1_init : MethodName := ⟨RX1, "<init>", "()V"⟩
abbrev cX0_init : ByteArray := prog_2_method_1_code
def yX0_init : MethodName := ⟨RX0, "<init>", "()V"⟩
abbrev cL_mark : ByteArray := method_3_code
def yL_mark : MethodName := ⟨RL, "mark", "(LToldRows;III[J)I"⟩
abbrev cX3_mark : ByteArray := prog_1_method_2_code
def yX3_mark : MethodName := ⟨RX3, "mark", "(III)I"⟩
abbrev cX3_needTeller : ByteArray := prog_1_method_15_code
def yX3_needTeller : MethodName := ⟨RX3, "needTeller", "(I)V"⟩
abbrev cX3_needTime : ByteArray := prog_1_method_18_code
def yX3_needTime : MethodName := ⟨RX3, "needTime", "(I)V"⟩
abbrev cX1_canFollow : ByteArray := prog_3_method_2_code
def yX1_canFollow : MethodName := ⟨RX1, "canFollow", "(II)Z"⟩
abbrev cX1_addMark : ByteArray := prog_3_method_3_code
def yX1_addMark : MethodName := ⟨RX1, "addMark", "(II)V"⟩
abbrev cL_real : ByteArray := method_4_code
def yL_real : MethodName := ⟨RL, "real", "(LToldRows;II[J)I"⟩
abbrev cX3_real : ByteArray := prog_1_method_3_code
def yX3_real : MethodName := ⟨RX3, "real", "(II)I"⟩
abbrev cX1_realTime : ByteArray := prog_3_method_4_code
def yX1_realTime : MethodName := ⟨RX1, "realTime", "(I)I"⟩
abbrev cX1_marksUpTo : ByteArray := prog_3_method_5_code
def yX1_marksUpTo : MethodName := ⟨RX1, "marksUpTo", "(I)I"⟩
abbrev cX1_realBetween : ByteArray := prog_3_method_6_code
def yX1_realBetween : MethodName := ⟨RX1, "realBetween", "(II)I"⟩
abbrev cL_tell : ByteArray := method_5_code
def yL_tell : MethodName := ⟨RL, "tell", "(LToldRows;IIJI[J)I"⟩
abbrev cX3_tell : ByteArray := prog_1_method_4_code
def yX3_tell : MethodName := ⟨RX3, "tell", "(IIJI)I"⟩
abbrev cX3_needDesk : ByteArray := prog_1_method_16_code
def yX3_needDesk : MethodName := ⟨RX3, "needDesk", "(I)V"⟩
abbrev cX3_needTold : ByteArray := prog_1_method_19_code
def yX3_needTold : MethodName := ⟨RX3, "needTold", "(J)V"⟩
abbrev cX3_timeIn : ByteArray := prog_1_method_22_code
def yX3_timeIn : MethodName := ⟨RX3, "timeIn", "(I)I"⟩
abbrev cX3_lowBits : ByteArray := prog_1_method_21_code
def yX3_lowBits : MethodName := ⟨RX3, "lowBits", "(II)I"⟩
abbrev cX3_numberIn : ByteArray := prog_1_method_24_code
def yX3_numberIn : MethodName := ⟨RX3, "numberIn", "(I)I"⟩
abbrev cX3_nameOf : ByteArray := prog_1_method_25_code
def yX3_nameOf : MethodName := ⟨RX3, "nameOf", "(III)I"⟩
abbrev cX2_find : ByteArray := prog_4_method_2_code
def yX2_find : MethodName := ⟨RX2, "find", "(III)I"⟩
abbrev cX0_has : ByteArray := prog_2_method_2_code
def yX0_has : MethodName := ⟨RX0, "has", "(I)Z"⟩
abbrev cX2_add : ByteArray := prog_4_method_4_code
def yX2_add : MethodName := ⟨RX2, "add", "(III)I"⟩
abbrev cX3_hasRival : ByteArray := prog_1_method_26_code
def yX3_hasRival : MethodName := ⟨RX3, "hasRival", "(LToldRows$Desk;I)Z"⟩
abbrev cX2_areRivals : ByteArray := prog_4_method_6_code
def yX2_areRivals : MethodName := ⟨RX2, "areRivals", "(II)Z"⟩
abbrev cX0_take : ByteArray := prog_2_method_5_code
def yX0_take : MethodName := ⟨RX0, "take", "(I)V"⟩
abbrev cL_restart : ByteArray := method_6_code
def yL_restart : MethodName := ⟨RL, "restart", "(LToldRows;I[J)I"⟩
abbrev cX3_restart : ByteArray := prog_1_method_5_code
def yX3_restart : MethodName := ⟨RX3, "restart", "(I)I"⟩
abbrev cL_join : ByteArray := method_7_code
def yL_join : MethodName := ⟨RL, "join", "(LToldRows;II[J)I"⟩
abbrev cX3_join : ByteArray := prog_1_method_6_code
def yX3_join : MethodName := ⟨RX3, "join", "(II)I"⟩
abbrev cX0_hasSeen : ByteArray := prog_2_method_3_code
def yX0_hasSeen : MethodName := ⟨RX0, "hasSeen", "(I)Z"⟩
abbrev cL_batch : ByteArray := method_8_code
def yL_batch : MethodName := ⟨RL, "batch", "(LToldRows;IZ[J)I"⟩
abbrev cX3_batch : ByteArray := prog_1_method_7_code
def yX3_batch : MethodName := ⟨RX3, "batch", "(IZ)I"⟩
abbrev cX0_endBatch : ByteArray := prog_2_method_6_code
def yX0_endBatch : MethodName := ⟨RX0, "endBatch", "()V"⟩
abbrev cL_same : ByteArray := method_9_code
def yL_same : MethodName := ⟨RL, "same", "(LToldRows;II[J)I"⟩
abbrev cX3_same : ByteArray := prog_1_method_8_code
def yX3_same : MethodName := ⟨RX3, "same", "(II)Z"⟩
abbrev cL_conflicts : ByteArray := method_10_code
def yL_conflicts : MethodName := ⟨RL, "conflicts", "(LToldRows;I[J)I"⟩
abbrev cX3_conflicts : ByteArray := prog_1_method_9_code
def yX3_conflicts : MethodName := ⟨RX3, "conflicts", "(I)I"⟩
abbrev cX3_beginsConflict : ByteArray := prog_1_method_27_code
def yX3_beginsConflict : MethodName := ⟨RX3, "beginsConflict", "(LToldRows$Desk;I)Z"⟩
abbrev cL_settle : ByteArray := method_11_code
def yL_settle : MethodName := ⟨RL, "settle", "(LToldRows;II[J)I"⟩
abbrev cX3_settle : ByteArray := prog_1_method_10_code
def yX3_settle : MethodName := ⟨RX3, "settle", "(II)I"⟩
abbrev cX3_needName : ByteArray := prog_1_method_20_code
def yX3_needName : MethodName := ⟨RX3, "needName", "(I)V"⟩
abbrev cX2_findKth : ByteArray := prog_4_method_3_code
def yX2_findKth : MethodName := ⟨RX2, "findKth", "(II)I"⟩
abbrev cX2_settleOn : ByteArray := prog_4_method_5_code
def yX2_settleOn : MethodName := ⟨RX2, "settleOn", "(I)V"⟩
abbrev cL_last : ByteArray := method_12_code
def yL_last : MethodName := ⟨RL, "last", "(LToldRows;III[J)I"⟩
abbrev cX3_last : ByteArray := prog_1_method_11_code
def yX3_last : MethodName := ⟨RX3, "last", "(III)I"⟩
abbrev cX3_needKey : ByteArray := prog_1_method_17_code
def yX3_needKey : MethodName := ⟨RX3, "needKey", "(I)V"⟩
abbrev cX3_findLast : ByteArray := prog_1_method_29_code
def yX3_findLast : MethodName := ⟨RX3, "findLast", "(LToldRows$Desk;II)I"⟩
abbrev cX2_key : ByteArray := prog_4_method_10_code
def yX2_key : MethodName := ⟨RX2, "key", "(I)I"⟩
abbrev cX3_keyIn : ByteArray := prog_1_method_23_code
def yX3_keyIn : MethodName := ⟨RX3, "keyIn", "(I)I"⟩
abbrev cX0_hadSeen : ByteArray := prog_2_method_4_code
def yX0_hadSeen : MethodName := ⟨RX0, "hadSeen", "(II)Z"⟩
abbrev cX3_isLater : ByteArray := prog_1_method_30_code
def yX3_isLater : MethodName := ⟨RX3, "isLater", "(II)Z"⟩
abbrev cX3_realTimeOf : ByteArray := prog_1_method_31_code
def yX3_realTimeOf : MethodName := ⟨RX3, "realTimeOf", "(I)I"⟩
abbrev cX2_teller : ByteArray := prog_4_method_7_code
def yX2_teller : MethodName := ⟨RX2, "teller", "(I)I"⟩
abbrev cX2_rank : ByteArray := prog_4_method_11_code
def yX2_rank : MethodName := ⟨RX2, "rank", "(I)I"⟩
abbrev cX2_life : ByteArray := prog_4_method_8_code
def yX2_life : MethodName := ⟨RX2, "life", "(I)I"⟩
abbrev cX2_number : ByteArray := prog_4_method_9_code
def yX2_number : MethodName := ⟨RX2, "number", "(I)I"⟩
abbrev cX3_countsBy : ByteArray := prog_1_method_28_code
def yX3_countsBy : MethodName := ⟨RX3, "countsBy", "(LToldRows$Desk;II)Z"⟩
abbrev cL_known : ByteArray := method_13_code
def yL_known : MethodName := ⟨RL, "known", "(LToldRows;III[J)I"⟩
abbrev cX3_known : ByteArray := prog_1_method_12_code
def yX3_known : MethodName := ⟨RX3, "known", "(III)I"⟩
abbrev cL_many : ByteArray := method_14_code
def yL_many : MethodName := ⟨RL, "many", "(LToldRows;II[J)I"⟩
abbrev cX3_many : ByteArray := prog_1_method_13_code
def yX3_many : MethodName := ⟨RX3, "many", "(II)I"⟩
abbrev cL_gap : ByteArray := method_15_code
def yL_gap : MethodName := ⟨RL, "gap", "(LToldRows;III[J)I"⟩
abbrev cX3_gap : ByteArray := prog_1_method_14_code
def yX3_gap : MethodName := ⟨RX3, "gap", "(III)I"⟩
abbrev cX3_hear : ByteArray := prog_1_method_32_code
def yX3_hear : MethodName := ⟨RX3, "hear", "(LToldRows$Desk;I)I"⟩
abbrev cX4_init : ByteArray := prog_6_method_1_code
def yX4_init : MethodName := ⟨RX4, "<init>", "()V"⟩
abbrev cX4_thrown : ByteArray := prog_6_method_2_code
def yX4_thrown : MethodName := ⟨RX4, "thrown", "()I"⟩
abbrev cX4_mark : ByteArray := prog_6_method_7_code
def yX4_mark : MethodName := ⟨RX4, "mark", "(III)I"⟩
abbrev cX4_isTeller : ByteArray := prog_6_method_6_code
def yX4_isTeller : MethodName := ⟨RX4, "isTeller", "(I)Z"⟩
abbrev cX4_in : ByteArray := prog_6_method_4_code
def yX4_in : MethodName := ⟨RX4, "in", "(JII)Z"⟩
abbrev cX4_throwing : ByteArray := prog_6_method_3_code
def yX4_throwing : MethodName := ⟨RX4, "throwing", "(ZZZZ)Z"⟩
abbrev cX4_real : ByteArray := prog_6_method_9_code
def yX4_real : MethodName := ⟨RX4, "real", "(II)I"⟩
abbrev cX4_realOf : ByteArray := prog_6_method_8_code
def yX4_realOf : MethodName := ⟨RX4, "realOf", "(II)I"⟩
abbrev cX4_tell : ByteArray := prog_6_method_14_code
def yX4_tell : MethodName := ⟨RX4, "tell", "(IIJI)I"⟩
abbrev cX4_isDesk : ByteArray := prog_6_method_5_code
def yX4_isDesk : MethodName := ⟨RX4, "isDesk", "(I)Z"⟩
abbrev cX4_find : ByteArray := prog_6_method_13_code
def yX4_find : MethodName := ⟨RX4, "find", "(IIIII)I"⟩
abbrev cX4_has : ByteArray := prog_6_method_12_code
def yX4_has : MethodName := ⟨RX4, "has", "(II)Z"⟩
abbrev cX4_areRivals : ByteArray := prog_6_method_10_code
def yX4_areRivals : MethodName := ⟨RX4, "areRivals", "(II)Z"⟩
abbrev cX4_comes : ByteArray := prog_6_method_11_code
def yX4_comes : MethodName := ⟨RX4, "comes", "(II)V"⟩
abbrev cX4_restart : ByteArray := prog_6_method_15_code
def yX4_restart : MethodName := ⟨RX4, "restart", "(I)I"⟩
abbrev cX4_join : ByteArray := prog_6_method_16_code
def yX4_join : MethodName := ⟨RX4, "join", "(II)I"⟩
abbrev cX4_batch : ByteArray := prog_6_method_17_code
def yX4_batch : MethodName := ⟨RX4, "batch", "(IZ)I"⟩
abbrev cX4_same : ByteArray := prog_6_method_19_code
def yX4_same : MethodName := ⟨RX4, "same", "(II)Z"⟩
abbrev cX4_sees : ByteArray := prog_6_method_18_code
def yX4_sees : MethodName := ⟨RX4, "sees", "(III)Z"⟩
abbrev cX4_conflicts : ByteArray := prog_6_method_20_code
def yX4_conflicts : MethodName := ⟨RX4, "conflicts", "(I)I"⟩
abbrev cX4_settle : ByteArray := prog_6_method_21_code
def yX4_settle : MethodName := ⟨RX4, "settle", "(II)I"⟩
abbrev cX4_last : ByteArray := prog_6_method_25_code
def yX4_last : MethodName := ⟨RX4, "last", "(III)I"⟩
abbrev cX4_lastOf : ByteArray := prog_6_method_24_code
def yX4_lastOf : MethodName := ⟨RX4, "lastOf", "(III)I"⟩
abbrev cX4_counts : ByteArray := prog_6_method_22_code
def yX4_counts : MethodName := ⟨RX4, "counts", "(III)Z"⟩
abbrev cX4_isLater : ByteArray := prog_6_method_23_code
def yX4_isLater : MethodName := ⟨RX4, "isLater", "(II)Z"⟩
abbrev cX4_known : ByteArray := prog_6_method_26_code
def yX4_known : MethodName := ⟨RX4, "known", "(III)I"⟩
abbrev cX4_many : ByteArray := prog_6_method_27_code
def yX4_many : MethodName := ⟨RX4, "many", "(II)I"⟩
abbrev cX4_gap : ByteArray := prog_6_method_29_code
def yX4_gap : MethodName := ⟨RX4, "gap", "(III)I"⟩
abbrev cX4_hasNumber : ByteArray := prog_6_method_28_code
def yX4_hasNumber : MethodName := ⟨RX4, "hasNumber", "(III)Z"⟩
abbrev cL_law : ByteArray := code
def yL_law : MethodName := ⟨RL, "law", "([I)Z"⟩
theorem lw_mem {w : Cond} (i : Nat) (h : tables_1[i]? = some w) (g : goodWord w = true) : w ∈ lw_G := List.mem_filter.mpr ⟨List.mem_append_right _ (List.mem_of_getElem? h), g⟩
theorem g_0 : (Jvm.Cond.initialized "ToldRowsLaw") ∈ lw_G := lw_mem 0 (by decide +kernel) (by decide +kernel)
theorem g_1 : (Jvm.Cond.initialized "ToldRows") ∈ lw_G := lw_mem 1 (by decide +kernel) (by decide +kernel)
theorem g_2 : (Jvm.Cond.initialized "ToldRows$Tellings") ∈ lw_G := lw_mem 2 (by decide +kernel) (by decide +kernel)
theorem g_3 : (Jvm.Cond.initialized "ToldRows$Teller") ∈ lw_G := lw_mem 3 (by decide +kernel) (by decide +kernel)
theorem g_4 : (Jvm.Cond.initialized "ToldRows$Desk") ∈ lw_G := lw_mem 4 (by decide +kernel) (by decide +kernel)
theorem g_5 : (Jvm.Cond.initialized "ToldRowsModel") ∈ lw_G := lw_mem 5 (by decide +kernel) (by decide +kernel)
theorem g_6 : (Jvm.Cond.initialized "java/lang/Throwable") ∈ lw_G := lw_mem 6 (by decide +kernel) (by decide +kernel)
theorem g_7 : (Jvm.Cond.initialized "java/lang/Exception") ∈ lw_G := lw_mem 7 (by decide +kernel) (by decide +kernel)
theorem g_8 : (Jvm.Cond.initialized "java/lang/RuntimeException") ∈ lw_G := lw_mem 8 (by decide +kernel) (by decide +kernel)
theorem g_9 : (Jvm.Cond.initialized "java/lang/IndexOutOfBoundsException") ∈ lw_G := lw_mem 9 (by decide +kernel) (by decide +kernel)
theorem g_10 : (Jvm.Cond.initialized "java/lang/IllegalStateException") ∈ lw_G := lw_mem 10 (by decide +kernel) (by decide +kernel)
theorem g_11 : (Jvm.Cond.initialized "java/lang/IllegalArgumentException") ∈ lw_G := lw_mem 11 (by decide +kernel) (by decide +kernel)
theorem g_12 : (Jvm.Cond.initialized "java/lang/UnsupportedOperationException") ∈ lw_G := lw_mem 12 (by decide +kernel) (by decide +kernel)
theorem g_13 : (Jvm.Cond.initialized "java/lang/Math") ∈ lw_G := lw_mem 13 (by decide +kernel) (by decide +kernel)
theorem g_14 : (Jvm.Cond.classLink "ToldRowsLaw" (8 : Nat) "ToldRows") ∈ lw_G := lw_mem 14 (by decide +kernel) (by decide +kernel)
theorem g_15 : (Jvm.Cond.instantiable "ToldRows" (4 : Nat)) ∈ lw_G := lw_mem 15 (by decide +kernel) (by decide +kernel)
theorem g_16 : (Jvm.Cond.methodLink "ToldRowsLaw" (62 : Nat) ({ cls := "ToldRows", name := "<init>", desc := "()V" } : Jvm.MethodName)) ∈ lw_G := lw_mem 16 (by decide +kernel) (by decide +kernel)
theorem g_17 : (Jvm.Cond.instanceMethod ({ cls := "ToldRows", name := "<init>", desc := "()V" } : Jvm.MethodName)) ∈ lw_G := lw_mem 17 (by decide +kernel) (by decide +kernel)
theorem g_18 : (Jvm.Cond.code ({ cls := "ToldRows", name := "<init>", desc := "()V" } : Jvm.MethodName) prog_1_method_1_code (2 : Nat) (Option.none : Option Jvm.ClassFile.FieldType)) ∈ lw_G := lw_mem 18 (by decide +kernel) (by decide +kernel)
theorem g_19 : (Jvm.Cond.methodLink "ToldRows" (3 : Nat) ({ cls := "java/lang/Object", name := "<init>", desc := "()V" } : Jvm.MethodName)) ∈ lw_G := lw_mem 19 (by decide +kernel) (by decide +kernel)
theorem g_20 : (Jvm.Cond.instanceMethod ({ cls := "java/lang/Object", name := "<init>", desc := "()V" } : Jvm.MethodName)) ∈ lw_G := lw_mem 20 (by decide +kernel) (by decide +kernel)
theorem g_21 : (Jvm.Cond.code ({ cls := "java/lang/Object", name := "<init>", desc := "()V" } : Jvm.MethodName) object_method_1_code (1 : Nat) (Option.none : Option Jvm.ClassFile.FieldType)) ∈ lw_G := lw_mem 21 (by decide +kernel) (by decide +kernel)
theorem g_22 : (Jvm.Cond.classLink "ToldRows" (9 : Nat) "ToldRows$Teller") ∈ lw_G := lw_mem 22 (by decide +kernel) (by decide +kernel)
theorem g_24 : (Jvm.Cond.classLink "ToldRows" (15 : Nat) "ToldRows$Desk") ∈ lw_G := lw_mem 24 (by decide +kernel) (by decide +kernel)
theorem g_26 : (Jvm.Cond.classLink "ToldRows" (21 : Nat) "ToldRows$Tellings") ∈ lw_G := lw_mem 26 (by decide +kernel) (by decide +kernel)
theorem g_27 : (Jvm.Cond.instantiable "ToldRows$Tellings" (5 : Nat)) ∈ lw_G := lw_mem 27 (by decide +kernel) (by decide +kernel)
theorem g_29 : (Jvm.Cond.instanceMethod ({ cls := "ToldRows$Tellings", name := "<init>", desc := "()V" } : Jvm.MethodName)) ∈ lw_G := lw_mem 29 (by decide +kernel) (by decide +kernel)
theorem g_30 : (Jvm.Cond.code ({ cls := "ToldRows$Tellings", name := "<init>", desc := "()V" } : Jvm.MethodName) prog_4_method_1_code (1 : Nat) (Option.none : Option Jvm.ClassFile.FieldType)) ∈ lw_G := lw_mem 30 (by decide +kernel) (by decide +kernel)
theorem g_31 : (Jvm.Cond.methodLink "ToldRows$Tellings" (3 : Nat) ({ cls := "java/lang/Object", name := "<init>", desc := "()V" } : Jvm.MethodName)) ∈ lw_G := lw_mem 31 (by decide +kernel) (by decide +kernel)
theorem g_32 : (Jvm.Cond.fieldLink "ToldRows$Tellings" (9 : Nat) "ToldRows$Tellings" "names" "[I") ∈ lw_G := lw_mem 32 (by decide +kernel) (by decide +kernel)
theorem g_33 : (Jvm.Cond.fieldLink "ToldRows" (234 : Nat) "ToldRows$Tellings" "names" "[I") ∈ lw_G := lw_mem 33 (by decide +kernel) (by decide +kernel)
theorem g_34 : (Jvm.Cond.fieldLink "ToldRows$Tellings" (15 : Nat) "ToldRows$Tellings" "tolds" "[I") ∈ lw_G := lw_mem 34 (by decide +kernel) (by decide +kernel)
theorem g_35 : (Jvm.Cond.fieldLink "ToldRows" (231 : Nat) "ToldRows$Tellings" "tolds" "[I") ∈ lw_G := lw_mem 35 (by decide +kernel) (by decide +kernel)
theorem g_36 : (Jvm.Cond.fieldLink "ToldRows$Tellings" (18 : Nat) "ToldRows$Tellings" "values" "[I") ∈ lw_G := lw_mem 36 (by decide +kernel) (by decide +kernel)
theorem g_37 : (Jvm.Cond.fieldLink "ToldRows" (150 : Nat) "ToldRows$Tellings" "values" "[I") ∈ lw_G := lw_mem 37 (by decide +kernel) (by decide +kernel)
theorem g_38 : (Jvm.Cond.fieldLink "ToldRows$Tellings" (21 : Nat) "ToldRows$Tellings" "settled" "[Z") ∈ lw_G := lw_mem 38 (by decide +kernel) (by decide +kernel)
theorem g_39 : (Jvm.Cond.fieldLink "ToldRows" (212 : Nat) "ToldRows$Tellings" "settled" "[Z") ∈ lw_G := lw_mem 39 (by decide +kernel) (by decide +kernel)
theorem g_40 : (Jvm.Cond.fieldLink "ToldRows$Tellings" (25 : Nat) "ToldRows$Tellings" "count" "I") ∈ lw_G := lw_mem 40 (by decide +kernel) (by decide +kernel)
theorem g_41 : (Jvm.Cond.fieldLink "ToldRows" (89 : Nat) "ToldRows$Tellings" "count" "I") ∈ lw_G := lw_mem 41 (by decide +kernel) (by decide +kernel)
theorem g_42 : (Jvm.Cond.laysFinal "ToldRows$Tellings" "ToldRows$Tellings" "names" "[I") ∈ lw_G := lw_mem 42 (by decide +kernel) (by decide +kernel)
theorem g_44 : (Jvm.Cond.laysFinal "ToldRows$Tellings" "ToldRows$Tellings" "tolds" "[I") ∈ lw_G := lw_mem 44 (by decide +kernel) (by decide +kernel)
theorem g_46 : (Jvm.Cond.laysFinal "ToldRows$Tellings" "ToldRows$Tellings" "values" "[I") ∈ lw_G := lw_mem 46 (by decide +kernel) (by decide +kernel)
theorem g_48 : (Jvm.Cond.laysFinal "ToldRows$Tellings" "ToldRows$Tellings" "settled" "[Z") ∈ lw_G := lw_mem 48 (by decide +kernel) (by decide +kernel)
theorem g_50 : (Jvm.Cond.lays "ToldRows$Tellings" "ToldRows$Tellings" "count" "I") ∈ lw_G := lw_mem 50 (by decide +kernel) (by decide +kernel)
theorem g_53 : (Jvm.Cond.arrayClass Jvm.ClassFile.FieldType.int) ∈ lw_G := lw_mem 53 (by decide +kernel) (by decide +kernel)
theorem g_54 : (Jvm.Cond.arrayClass Jvm.ClassFile.FieldType.boolean) ∈ lw_G := lw_mem 54 (by decide +kernel) (by decide +kernel)
theorem g_55 : (Jvm.Cond.instantiable "ToldRows$Teller" (4 : Nat)) ∈ lw_G := lw_mem 55 (by decide +kernel) (by decide +kernel)
theorem g_57 : (Jvm.Cond.instanceMethod ({ cls := "ToldRows$Teller", name := "<init>", desc := "()V" } : Jvm.MethodName)) ∈ lw_G := lw_mem 57 (by decide +kernel) (by decide +kernel)
theorem g_58 : (Jvm.Cond.code ({ cls := "ToldRows$Teller", name := "<init>", desc := "()V" } : Jvm.MethodName) prog_3_method_1_code (1 : Nat) (Option.none : Option Jvm.ClassFile.FieldType)) ∈ lw_G := lw_mem 58 (by decide +kernel) (by decide +kernel)
theorem g_59 : (Jvm.Cond.methodLink "ToldRows$Teller" (3 : Nat) ({ cls := "java/lang/Object", name := "<init>", desc := "()V" } : Jvm.MethodName)) ∈ lw_G := lw_mem 59 (by decide +kernel) (by decide +kernel)
theorem g_60 : (Jvm.Cond.fieldLink "ToldRows$Teller" (9 : Nat) "ToldRows$Teller" "ownTimes" "[I") ∈ lw_G := lw_mem 60 (by decide +kernel) (by decide +kernel)
theorem g_61 : (Jvm.Cond.fieldLink "ToldRows$Teller" (15 : Nat) "ToldRows$Teller" "realTimes" "[I") ∈ lw_G := lw_mem 61 (by decide +kernel) (by decide +kernel)
theorem g_62 : (Jvm.Cond.fieldLink "ToldRows$Teller" (18 : Nat) "ToldRows$Teller" "marks" "I") ∈ lw_G := lw_mem 62 (by decide +kernel) (by decide +kernel)
theorem g_63 : (Jvm.Cond.fieldLink "ToldRows" (38 : Nat) "ToldRows$Teller" "marks" "I") ∈ lw_G := lw_mem 63 (by decide +kernel) (by decide +kernel)
theorem g_64 : (Jvm.Cond.fieldLink "ToldRows" (76 : Nat) "ToldRows$Teller" "life" "I") ∈ lw_G := lw_mem 64 (by decide +kernel) (by decide +kernel)
theorem g_65 : (Jvm.Cond.laysFinal "ToldRows$Teller" "ToldRows$Teller" "ownTimes" "[I") ∈ lw_G := lw_mem 65 (by decide +kernel) (by decide +kernel)
theorem g_67 : (Jvm.Cond.laysFinal "ToldRows$Teller" "ToldRows$Teller" "realTimes" "[I") ∈ lw_G := lw_mem 67 (by decide +kernel) (by decide +kernel)
theorem g_69 : (Jvm.Cond.lays "ToldRows$Teller" "ToldRows$Teller" "marks" "I") ∈ lw_G := lw_mem 69 (by decide +kernel) (by decide +kernel)
theorem g_71 : (Jvm.Cond.lays "ToldRows$Teller" "ToldRows$Teller" "life" "I") ∈ lw_G := lw_mem 71 (by decide +kernel) (by decide +kernel)
theorem g_74 : (Jvm.Cond.instantiable "ToldRows$Desk" (5 : Nat)) ∈ lw_G := lw_mem 74 (by decide +kernel) (by decide +kernel)
theorem g_76 : (Jvm.Cond.instanceMethod ({ cls := "ToldRows$Desk", name := "<init>", desc := "()V" } : Jvm.MethodName)) ∈ lw_G := lw_mem 76 (by decide +kernel) (by decide +kernel)
theorem g_77 : (Jvm.Cond.code ({ cls := "ToldRows$Desk", name := "<init>", desc := "()V" } : Jvm.MethodName) prog_2_method_1_code (1 : Nat) (Option.none : Option Jvm.ClassFile.FieldType)) ∈ lw_G := lw_mem 77 (by decide +kernel) (by decide +kernel)
theorem g_78 : (Jvm.Cond.methodLink "ToldRows$Desk" (3 : Nat) ({ cls := "java/lang/Object", name := "<init>", desc := "()V" } : Jvm.MethodName)) ∈ lw_G := lw_mem 78 (by decide +kernel) (by decide +kernel)
theorem g_79 : (Jvm.Cond.fieldLink "ToldRows$Desk" (9 : Nat) "ToldRows$Desk" "moments" "[I") ∈ lw_G := lw_mem 79 (by decide +kernel) (by decide +kernel)
theorem g_80 : (Jvm.Cond.fieldLink "ToldRows$Desk" (23 : Nat) "ToldRows$Desk" "moment" "I") ∈ lw_G := lw_mem 80 (by decide +kernel) (by decide +kernel)
theorem g_81 : (Jvm.Cond.fieldLink "ToldRows" (130 : Nat) "ToldRows$Desk" "moment" "I") ∈ lw_G := lw_mem 81 (by decide +kernel) (by decide +kernel)
theorem g_82 : (Jvm.Cond.fieldLink "ToldRows$Desk" (26 : Nat) "ToldRows$Desk" "seen" "I") ∈ lw_G := lw_mem 82 (by decide +kernel) (by decide +kernel)
theorem g_83 : (Jvm.Cond.fieldLink "ToldRows" (180 : Nat) "ToldRows$Desk" "seen" "I") ∈ lw_G := lw_mem 83 (by decide +kernel) (by decide +kernel)
theorem g_84 : (Jvm.Cond.fieldLink "ToldRows$Desk" (19 : Nat) "ToldRows$Desk" "waiting" "I") ∈ lw_G := lw_mem 84 (by decide +kernel) (by decide +kernel)
theorem g_85 : (Jvm.Cond.fieldLink "ToldRows" (183 : Nat) "ToldRows$Desk" "waiting" "I") ∈ lw_G := lw_mem 85 (by decide +kernel) (by decide +kernel)
theorem g_86 : (Jvm.Cond.fieldLink "ToldRows$Desk" (15 : Nat) "ToldRows$Desk" "inBatch" "Z") ∈ lw_G := lw_mem 86 (by decide +kernel) (by decide +kernel)
theorem g_87 : (Jvm.Cond.fieldLink "ToldRows" (121 : Nat) "ToldRows$Desk" "inBatch" "Z") ∈ lw_G := lw_mem 87 (by decide +kernel) (by decide +kernel)
theorem g_88 : (Jvm.Cond.laysFinal "ToldRows$Desk" "ToldRows$Desk" "moments" "[I") ∈ lw_G := lw_mem 88 (by decide +kernel) (by decide +kernel)
theorem g_90 : (Jvm.Cond.lays "ToldRows$Desk" "ToldRows$Desk" "moment" "I") ∈ lw_G := lw_mem 90 (by decide +kernel) (by decide +kernel)
theorem g_92 : (Jvm.Cond.lays "ToldRows$Desk" "ToldRows$Desk" "seen" "I") ∈ lw_G := lw_mem 92 (by decide +kernel) (by decide +kernel)
theorem g_94 : (Jvm.Cond.lays "ToldRows$Desk" "ToldRows$Desk" "waiting" "I") ∈ lw_G := lw_mem 94 (by decide +kernel) (by decide +kernel)
theorem g_96 : (Jvm.Cond.lays "ToldRows$Desk" "ToldRows$Desk" "inBatch" "Z") ∈ lw_G := lw_mem 96 (by decide +kernel) (by decide +kernel)
theorem g_99 : (Jvm.Cond.fieldLink "ToldRows" (11 : Nat) "ToldRows" "tellers" "[LToldRows$Teller;") ∈ lw_G := lw_mem 99 (by decide +kernel) (by decide +kernel)
theorem g_100 : (Jvm.Cond.fieldLink "ToldRows" (17 : Nat) "ToldRows" "desks" "[LToldRows$Desk;") ∈ lw_G := lw_mem 100 (by decide +kernel) (by decide +kernel)
theorem g_101 : (Jvm.Cond.fieldLink "ToldRows" (24 : Nat) "ToldRows" "kept" "LToldRows$Tellings;") ∈ lw_G := lw_mem 101 (by decide +kernel) (by decide +kernel)
theorem g_102 : (Jvm.Cond.fieldLink "ToldRows" (28 : Nat) "ToldRows" "heard" "[Z") ∈ lw_G := lw_mem 102 (by decide +kernel) (by decide +kernel)
theorem g_103 : (Jvm.Cond.laysFinal "ToldRows" "ToldRows" "tellers" "[LToldRows$Teller;") ∈ lw_G := lw_mem 103 (by decide +kernel) (by decide +kernel)
theorem g_105 : (Jvm.Cond.laysFinal "ToldRows" "ToldRows" "desks" "[LToldRows$Desk;") ∈ lw_G := lw_mem 105 (by decide +kernel) (by decide +kernel)
theorem g_107 : (Jvm.Cond.laysFinal "ToldRows" "ToldRows" "kept" "LToldRows$Tellings;") ∈ lw_G := lw_mem 107 (by decide +kernel) (by decide +kernel)
theorem g_109 : (Jvm.Cond.laysFinal "ToldRows" "ToldRows" "heard" "[Z") ∈ lw_G := lw_mem 109 (by decide +kernel) (by decide +kernel)
theorem g_112 : (Jvm.Cond.methodLink "ToldRowsLaw" (66 : Nat) ({ cls := "ToldRowsLaw", name := "mark", desc := "(LToldRows;III[J)I" } : Jvm.MethodName)) ∈ lw_G := lw_mem 112 (by decide +kernel) (by decide +kernel)
theorem g_113 : (Jvm.Cond.static ({ cls := "ToldRowsLaw", name := "mark", desc := "(LToldRows;III[J)I" } : Jvm.MethodName)) ∈ lw_G := lw_mem 113 (by decide +kernel) (by decide +kernel)
theorem g_114 : (Jvm.Cond.codeWith ({ cls := "ToldRowsLaw", name := "mark", desc := "(LToldRows;III[J)I" } : Jvm.MethodName) method_3_code (6 : Nat) (Option.some Jvm.ClassFile.FieldType.int) [((0 : Nat), (12 : Nat), (15 : Nat), (13 : Nat)), ((0 : Nat), (12 : Nat), (19 : Nat), (15 : Nat)), ((0 : Nat), (12 : Nat), (23 : Nat), (17 : Nat))]) ∈ lw_G := lw_mem 114 (by decide +kernel) (by decide +kernel)
theorem g_115 : (Jvm.Cond.classLink "ToldRowsLaw" (13 : Nat) "java/lang/IndexOutOfBoundsException") ∈ lw_G := lw_mem 115 (by decide +kernel) (by decide +kernel)
theorem g_116 : (Jvm.Cond.classLink "ToldRowsLaw" (15 : Nat) "java/lang/IllegalStateException") ∈ lw_G := lw_mem 116 (by decide +kernel) (by decide +kernel)
theorem g_117 : (Jvm.Cond.classLink "ToldRowsLaw" (17 : Nat) "java/lang/IllegalArgumentException") ∈ lw_G := lw_mem 117 (by decide +kernel) (by decide +kernel)
theorem g_118 : (Jvm.Cond.methodLink "ToldRowsLaw" (7 : Nat) ({ cls := "ToldRows", name := "mark", desc := "(III)I" } : Jvm.MethodName)) ∈ lw_G := lw_mem 118 (by decide +kernel) (by decide +kernel)
theorem g_119 : (Jvm.Cond.instanceMethod ({ cls := "ToldRows", name := "mark", desc := "(III)I" } : Jvm.MethodName)) ∈ lw_G := lw_mem 119 (by decide +kernel) (by decide +kernel)
theorem g_120 : (Jvm.Cond.selects "ToldRows" ({ cls := "ToldRows", name := "mark", desc := "(III)I" } : Jvm.MethodName) ({ cls := "ToldRows", name := "mark", desc := "(III)I" } : Jvm.MethodName)) ∈ lw_G := lw_mem 120 (by decide +kernel) (by decide +kernel)
theorem g_121 : (Jvm.Cond.code ({ cls := "ToldRows", name := "mark", desc := "(III)I" } : Jvm.MethodName) prog_1_method_2_code (5 : Nat) (Option.some Jvm.ClassFile.FieldType.int)) ∈ lw_G := lw_mem 121 (by decide +kernel) (by decide +kernel)
theorem g_122 : (Jvm.Cond.methodLink "ToldRows" (34 : Nat) ({ cls := "ToldRows", name := "needTeller", desc := "(I)V" } : Jvm.MethodName)) ∈ lw_G := lw_mem 122 (by decide +kernel) (by decide +kernel)
theorem g_123 : (Jvm.Cond.static ({ cls := "ToldRows", name := "needTeller", desc := "(I)V" } : Jvm.MethodName)) ∈ lw_G := lw_mem 123 (by decide +kernel) (by decide +kernel)
theorem g_124 : (Jvm.Cond.code ({ cls := "ToldRows", name := "needTeller", desc := "(I)V" } : Jvm.MethodName) prog_1_method_15_code (1 : Nat) (Option.none : Option Jvm.ClassFile.FieldType)) ∈ lw_G := lw_mem 124 (by decide +kernel) (by decide +kernel)
theorem g_125 : (Jvm.Cond.classLink "ToldRows" (113 : Nat) "java/lang/IndexOutOfBoundsException") ∈ lw_G := lw_mem 125 (by decide +kernel) (by decide +kernel)
theorem g_126 : (Jvm.Cond.instantiable "java/lang/IndexOutOfBoundsException" (6 : Nat)) ∈ lw_G := lw_mem 126 (by decide +kernel) (by decide +kernel)
theorem g_134 : (Jvm.Cond.selects "java/lang/IndexOutOfBoundsException" ({ cls := "java/lang/Throwable", name := "fillInStackTrace", desc := "(I)Ljava/lang/Throwable;" } : Jvm.MethodName) ({ cls := "java/lang/Throwable", name := "fillInStackTrace", desc := "(I)Ljava/lang/Throwable;" } : Jvm.MethodName)) ∈ lw_G := lw_mem 134 (by decide +kernel) (by decide +kernel)
theorem g_135 : (Jvm.Cond.selects "java/lang/IndexOutOfBoundsException" ({ cls := "java/lang/Throwable", name := "fillInStackTrace", desc := "()Ljava/lang/Throwable;" } : Jvm.MethodName) ({ cls := "java/lang/Throwable", name := "fillInStackTrace", desc := "()Ljava/lang/Throwable;" } : Jvm.MethodName)) ∈ lw_G := lw_mem 135 (by decide +kernel) (by decide +kernel)
theorem g_136 : (Jvm.Cond.lays "java/lang/IndexOutOfBoundsException" "java/lang/Throwable" "cause" "Ljava/lang/Throwable;") ∈ lw_G := lw_mem 136 (by decide +kernel) (by decide +kernel)
theorem g_137 : (Jvm.Cond.lays "java/lang/Throwable" "java/lang/Throwable" "cause" "Ljava/lang/Throwable;") ∈ lw_G := lw_mem 137 (by decide +kernel) (by decide +kernel)
theorem g_138 : (Jvm.Cond.lays "java/lang/IndexOutOfBoundsException" "java/lang/Throwable" "stackTrace" "[Ljava/lang/StackTraceElement;") ∈ lw_G := lw_mem 138 (by decide +kernel) (by decide +kernel)
theorem g_139 : (Jvm.Cond.lays "java/lang/Throwable" "java/lang/Throwable" "stackTrace" "[Ljava/lang/StackTraceElement;") ∈ lw_G := lw_mem 139 (by decide +kernel) (by decide +kernel)
theorem g_140 : (Jvm.Cond.lays "java/lang/IndexOutOfBoundsException" "java/lang/Throwable" "suppressedExceptions" "Ljava/util/List;") ∈ lw_G := lw_mem 140 (by decide +kernel) (by decide +kernel)
theorem g_141 : (Jvm.Cond.lays "java/lang/Throwable" "java/lang/Throwable" "suppressedExceptions" "Ljava/util/List;") ∈ lw_G := lw_mem 141 (by decide +kernel) (by decide +kernel)
theorem g_142 : (Jvm.Cond.lays "java/lang/IndexOutOfBoundsException" "java/lang/Throwable" "detailMessage" "Ljava/lang/String;") ∈ lw_G := lw_mem 142 (by decide +kernel) (by decide +kernel)
theorem g_143 : (Jvm.Cond.lays "java/lang/Throwable" "java/lang/Throwable" "detailMessage" "Ljava/lang/String;") ∈ lw_G := lw_mem 143 (by decide +kernel) (by decide +kernel)
theorem g_144 : (Jvm.Cond.lays "java/lang/IndexOutOfBoundsException" "java/lang/Throwable" "backtrace" "Ljava/lang/Object;") ∈ lw_G := lw_mem 144 (by decide +kernel) (by decide +kernel)
theorem g_145 : (Jvm.Cond.lays "java/lang/Throwable" "java/lang/Throwable" "backtrace" "Ljava/lang/Object;") ∈ lw_G := lw_mem 145 (by decide +kernel) (by decide +kernel)
theorem g_146 : (Jvm.Cond.fieldLink "java/lang/Throwable" (198 : Nat) "java/lang/Throwable" "backtrace" "Ljava/lang/Object;") ∈ lw_G := lw_mem 146 (by decide +kernel) (by decide +kernel)
theorem g_148 : (Jvm.Cond.instanceMethod ({ cls := "java/lang/Throwable", name := "<init>", desc := "()V" } : Jvm.MethodName)) ∈ lw_G := lw_mem 148 (by decide +kernel) (by decide +kernel)
theorem g_149 : (Jvm.Cond.code ({ cls := "java/lang/Throwable", name := "<init>", desc := "()V" } : Jvm.MethodName) prog_14_method_1_code (1 : Nat) (Option.none : Option Jvm.ClassFile.FieldType)) ∈ lw_G := lw_mem 149 (by decide +kernel) (by decide +kernel)
theorem g_150 : (Jvm.Cond.methodLink "java/lang/Throwable" (1 : Nat) ({ cls := "java/lang/Object", name := "<init>", desc := "()V" } : Jvm.MethodName)) ∈ lw_G := lw_mem 150 (by decide +kernel) (by decide +kernel)
theorem g_151 : (Jvm.Cond.fieldLink "java/lang/Throwable" (13 : Nat) "java/lang/Throwable" "UNASSIGNED_STACK" "[Ljava/lang/StackTraceElement;") ∈ lw_G := lw_mem 151 (by decide +kernel) (by decide +kernel)
theorem g_153 : (Jvm.Cond.fieldLink "java/lang/Throwable" (20 : Nat) "java/lang/Throwable" "SUPPRESSED_SENTINEL" "Ljava/util/List;") ∈ lw_G := lw_mem 153 (by decide +kernel) (by decide +kernel)
theorem g_155 : (Jvm.Cond.methodLink "java/lang/Throwable" (27 : Nat) ({ cls := "java/lang/Throwable", name := "fillInStackTrace", desc := "()Ljava/lang/Throwable;" } : Jvm.MethodName)) ∈ lw_G := lw_mem 155 (by decide +kernel) (by decide +kernel)
theorem g_156 : (Jvm.Cond.instanceMethod ({ cls := "java/lang/Throwable", name := "fillInStackTrace", desc := "()Ljava/lang/Throwable;" } : Jvm.MethodName)) ∈ lw_G := lw_mem 156 (by decide +kernel) (by decide +kernel)
theorem g_158 : (Jvm.Cond.selects "java/lang/IllegalArgumentException" ({ cls := "java/lang/Throwable", name := "fillInStackTrace", desc := "()Ljava/lang/Throwable;" } : Jvm.MethodName) ({ cls := "java/lang/Throwable", name := "fillInStackTrace", desc := "()Ljava/lang/Throwable;" } : Jvm.MethodName)) ∈ lw_G := lw_mem 158 (by decide +kernel) (by decide +kernel)
theorem g_159 : (Jvm.Cond.selects "java/lang/IllegalStateException" ({ cls := "java/lang/Throwable", name := "fillInStackTrace", desc := "()Ljava/lang/Throwable;" } : Jvm.MethodName) ({ cls := "java/lang/Throwable", name := "fillInStackTrace", desc := "()Ljava/lang/Throwable;" } : Jvm.MethodName)) ∈ lw_G := lw_mem 159 (by decide +kernel) (by decide +kernel)
theorem g_160 : (Jvm.Cond.selects "java/lang/UnsupportedOperationException" ({ cls := "java/lang/Throwable", name := "fillInStackTrace", desc := "()Ljava/lang/Throwable;" } : Jvm.MethodName) ({ cls := "java/lang/Throwable", name := "fillInStackTrace", desc := "()Ljava/lang/Throwable;" } : Jvm.MethodName)) ∈ lw_G := lw_mem 160 (by decide +kernel) (by decide +kernel)
theorem g_162 : (Jvm.Cond.methodLink "java/lang/Throwable" (202 : Nat) ({ cls := "java/lang/Throwable", name := "fillInStackTrace", desc := "(I)Ljava/lang/Throwable;" } : Jvm.MethodName)) ∈ lw_G := lw_mem 162 (by decide +kernel) (by decide +kernel)
theorem g_164 : (Jvm.Cond.instanceMethod ({ cls := "java/lang/Throwable", name := "fillInStackTrace", desc := "(I)Ljava/lang/Throwable;" } : Jvm.MethodName)) ∈ lw_G := lw_mem 164 (by decide +kernel) (by decide +kernel)
theorem g_165 : (Jvm.Cond.instantiable "java/lang/Throwable" (6 : Nat)) ∈ lw_G := lw_mem 165 (by decide +kernel) (by decide +kernel)
theorem g_168 : (Jvm.Cond.methodLink "ToldRows" (117 : Nat) ({ cls := "java/lang/IndexOutOfBoundsException", name := "<init>", desc := "(Ljava/lang/String;)V" } : Jvm.MethodName)) ∈ lw_G := lw_mem 168 (by decide +kernel) (by decide +kernel)
theorem g_169 : (Jvm.Cond.instanceMethod ({ cls := "java/lang/IndexOutOfBoundsException", name := "<init>", desc := "(Ljava/lang/String;)V" } : Jvm.MethodName)) ∈ lw_G := lw_mem 169 (by decide +kernel) (by decide +kernel)
theorem g_170 : (Jvm.Cond.code ({ cls := "java/lang/IndexOutOfBoundsException", name := "<init>", desc := "(Ljava/lang/String;)V" } : Jvm.MethodName) prog_10_method_2_code (2 : Nat) (Option.none : Option Jvm.ClassFile.FieldType)) ∈ lw_G := lw_mem 170 (by decide +kernel) (by decide +kernel)
theorem g_171 : (Jvm.Cond.methodLink "java/lang/IndexOutOfBoundsException" (7 : Nat) ({ cls := "java/lang/RuntimeException", name := "<init>", desc := "(Ljava/lang/String;)V" } : Jvm.MethodName)) ∈ lw_G := lw_mem 171 (by decide +kernel) (by decide +kernel)
theorem g_172 : (Jvm.Cond.instanceMethod ({ cls := "java/lang/RuntimeException", name := "<init>", desc := "(Ljava/lang/String;)V" } : Jvm.MethodName)) ∈ lw_G := lw_mem 172 (by decide +kernel) (by decide +kernel)
theorem g_173 : (Jvm.Cond.code ({ cls := "java/lang/RuntimeException", name := "<init>", desc := "(Ljava/lang/String;)V" } : Jvm.MethodName) prog_12_method_2_code (2 : Nat) (Option.none : Option Jvm.ClassFile.FieldType)) ∈ lw_G := lw_mem 173 (by decide +kernel) (by decide +kernel)
theorem g_174 : (Jvm.Cond.methodLink "java/lang/RuntimeException" (7 : Nat) ({ cls := "java/lang/Exception", name := "<init>", desc := "(Ljava/lang/String;)V" } : Jvm.MethodName)) ∈ lw_G := lw_mem 174 (by decide +kernel) (by decide +kernel)
theorem g_175 : (Jvm.Cond.instanceMethod ({ cls := "java/lang/Exception", name := "<init>", desc := "(Ljava/lang/String;)V" } : Jvm.MethodName)) ∈ lw_G := lw_mem 175 (by decide +kernel) (by decide +kernel)
theorem g_176 : (Jvm.Cond.code ({ cls := "java/lang/Exception", name := "<init>", desc := "(Ljava/lang/String;)V" } : Jvm.MethodName) prog_7_method_2_code (2 : Nat) (Option.none : Option Jvm.ClassFile.FieldType)) ∈ lw_G := lw_mem 176 (by decide +kernel) (by decide +kernel)
theorem g_177 : (Jvm.Cond.methodLink "java/lang/Exception" (7 : Nat) ({ cls := "java/lang/Throwable", name := "<init>", desc := "(Ljava/lang/String;)V" } : Jvm.MethodName)) ∈ lw_G := lw_mem 177 (by decide +kernel) (by decide +kernel)
theorem g_178 : (Jvm.Cond.instanceMethod ({ cls := "java/lang/Throwable", name := "<init>", desc := "(Ljava/lang/String;)V" } : Jvm.MethodName)) ∈ lw_G := lw_mem 178 (by decide +kernel) (by decide +kernel)
theorem g_179 : (Jvm.Cond.code ({ cls := "java/lang/Throwable", name := "<init>", desc := "(Ljava/lang/String;)V" } : Jvm.MethodName) prog_14_method_2_code (2 : Nat) (Option.none : Option Jvm.ClassFile.FieldType)) ∈ lw_G := lw_mem 179 (by decide +kernel) (by decide +kernel)
theorem g_180 : (Jvm.Cond.fieldLink "java/lang/Throwable" (198 : Nat) "java/lang/Throwable" "backtrace" "Ljava/lang/Object;") ∈ lw_G := lw_mem 180 (by decide +kernel) (by decide +kernel)
theorem g_181 : (Jvm.Cond.fieldLink "java/lang/Throwable" (31 : Nat) "java/lang/Throwable" "detailMessage" "Ljava/lang/String;") ∈ lw_G := lw_mem 181 (by decide +kernel) (by decide +kernel)
theorem g_182 : (Jvm.Cond.fieldLink "java/lang/Throwable" (7 : Nat) "java/lang/Throwable" "cause" "Ljava/lang/Throwable;") ∈ lw_G := lw_mem 182 (by decide +kernel) (by decide +kernel)
theorem g_183 : (Jvm.Cond.fieldLink "java/lang/Throwable" (17 : Nat) "java/lang/Throwable" "stackTrace" "[Ljava/lang/StackTraceElement;") ∈ lw_G := lw_mem 183 (by decide +kernel) (by decide +kernel)
theorem g_184 : (Jvm.Cond.fieldLink "java/lang/Throwable" (24 : Nat) "java/lang/Throwable" "suppressedExceptions" "Ljava/util/List;") ∈ lw_G := lw_mem 184 (by decide +kernel) (by decide +kernel)
theorem g_189 : (Jvm.Cond.lays "java/lang/IndexOutOfBoundsException" "java/lang/Throwable" "depth" "I") ∈ lw_G := lw_mem 189 (by decide +kernel) (by decide +kernel)
theorem g_193 : (Jvm.Cond.arrayClass Jvm.ClassFile.FieldType.byte) ∈ lw_G := lw_mem 193 (by decide +kernel) (by decide +kernel)
theorem g_194 : (Jvm.Cond.classLink "ToldRows" (42 : Nat) "java/lang/IllegalStateException") ∈ lw_G := lw_mem 194 (by decide +kernel) (by decide +kernel)
theorem g_195 : (Jvm.Cond.instantiable "java/lang/IllegalStateException" (6 : Nat)) ∈ lw_G := lw_mem 195 (by decide +kernel) (by decide +kernel)
theorem g_197 : (Jvm.Cond.selects "java/lang/IllegalStateException" ({ cls := "java/lang/Throwable", name := "fillInStackTrace", desc := "(I)Ljava/lang/Throwable;" } : Jvm.MethodName) ({ cls := "java/lang/Throwable", name := "fillInStackTrace", desc := "(I)Ljava/lang/Throwable;" } : Jvm.MethodName)) ∈ lw_G := lw_mem 197 (by decide +kernel) (by decide +kernel)
theorem g_198 : (Jvm.Cond.lays "java/lang/IllegalStateException" "java/lang/Throwable" "cause" "Ljava/lang/Throwable;") ∈ lw_G := lw_mem 198 (by decide +kernel) (by decide +kernel)
theorem g_199 : (Jvm.Cond.lays "java/lang/IllegalStateException" "java/lang/Throwable" "stackTrace" "[Ljava/lang/StackTraceElement;") ∈ lw_G := lw_mem 199 (by decide +kernel) (by decide +kernel)
theorem g_200 : (Jvm.Cond.lays "java/lang/IllegalStateException" "java/lang/Throwable" "suppressedExceptions" "Ljava/util/List;") ∈ lw_G := lw_mem 200 (by decide +kernel) (by decide +kernel)
theorem g_201 : (Jvm.Cond.lays "java/lang/IllegalStateException" "java/lang/Throwable" "detailMessage" "Ljava/lang/String;") ∈ lw_G := lw_mem 201 (by decide +kernel) (by decide +kernel)
theorem g_202 : (Jvm.Cond.lays "java/lang/IllegalStateException" "java/lang/Throwable" "backtrace" "Ljava/lang/Object;") ∈ lw_G := lw_mem 202 (by decide +kernel) (by decide +kernel)
theorem g_204 : (Jvm.Cond.methodLink "ToldRows" (46 : Nat) ({ cls := "java/lang/IllegalStateException", name := "<init>", desc := "(Ljava/lang/String;)V" } : Jvm.MethodName)) ∈ lw_G := lw_mem 204 (by decide +kernel) (by decide +kernel)
theorem g_205 : (Jvm.Cond.instanceMethod ({ cls := "java/lang/IllegalStateException", name := "<init>", desc := "(Ljava/lang/String;)V" } : Jvm.MethodName)) ∈ lw_G := lw_mem 205 (by decide +kernel) (by decide +kernel)
theorem g_206 : (Jvm.Cond.code ({ cls := "java/lang/IllegalStateException", name := "<init>", desc := "(Ljava/lang/String;)V" } : Jvm.MethodName) prog_9_method_2_code (2 : Nat) (Option.none : Option Jvm.ClassFile.FieldType)) ∈ lw_G := lw_mem 206 (by decide +kernel) (by decide +kernel)
theorem g_207 : (Jvm.Cond.methodLink "java/lang/IllegalStateException" (7 : Nat) ({ cls := "java/lang/RuntimeException", name := "<init>", desc := "(Ljava/lang/String;)V" } : Jvm.MethodName)) ∈ lw_G := lw_mem 207 (by decide +kernel) (by decide +kernel)
theorem g_208 : (Jvm.Cond.lays "java/lang/IllegalStateException" "java/lang/Throwable" "depth" "I") ∈ lw_G := lw_mem 208 (by decide +kernel) (by decide +kernel)
theorem g_210 : (Jvm.Cond.methodLink "ToldRows" (49 : Nat) ({ cls := "ToldRows", name := "needTime", desc := "(I)V" } : Jvm.MethodName)) ∈ lw_G := lw_mem 210 (by decide +kernel) (by decide +kernel)
theorem g_211 : (Jvm.Cond.static ({ cls := "ToldRows", name := "needTime", desc := "(I)V" } : Jvm.MethodName)) ∈ lw_G := lw_mem 211 (by decide +kernel) (by decide +kernel)
theorem g_212 : (Jvm.Cond.code ({ cls := "ToldRows", name := "needTime", desc := "(I)V" } : Jvm.MethodName) prog_1_method_18_code (1 : Nat) (Option.none : Option Jvm.ClassFile.FieldType)) ∈ lw_G := lw_mem 212 (by decide +kernel) (by decide +kernel)
theorem g_213 : (Jvm.Cond.constant "ToldRows" (196 : Nat) (1000000 : Int32)) ∈ lw_G := lw_mem 213 (by decide +kernel) (by decide +kernel)
theorem g_214 : (Jvm.Cond.classLink "ToldRows" (56 : Nat) "java/lang/IllegalArgumentException") ∈ lw_G := lw_mem 214 (by decide +kernel) (by decide +kernel)
theorem g_215 : (Jvm.Cond.instantiable "java/lang/IllegalArgumentException" (6 : Nat)) ∈ lw_G := lw_mem 215 (by decide +kernel) (by decide +kernel)
theorem g_217 : (Jvm.Cond.selects "java/lang/IllegalArgumentException" ({ cls := "java/lang/Throwable", name := "fillInStackTrace", desc := "(I)Ljava/lang/Throwable;" } : Jvm.MethodName) ({ cls := "java/lang/Throwable", name := "fillInStackTrace", desc := "(I)Ljava/lang/Throwable;" } : Jvm.MethodName)) ∈ lw_G := lw_mem 217 (by decide +kernel) (by decide +kernel)
theorem g_218 : (Jvm.Cond.lays "java/lang/IllegalArgumentException" "java/lang/Throwable" "cause" "Ljava/lang/Throwable;") ∈ lw_G := lw_mem 218 (by decide +kernel) (by decide +kernel)
theorem g_219 : (Jvm.Cond.lays "java/lang/IllegalArgumentException" "java/lang/Throwable" "stackTrace" "[Ljava/lang/StackTraceElement;") ∈ lw_G := lw_mem 219 (by decide +kernel) (by decide +kernel)
theorem g_220 : (Jvm.Cond.lays "java/lang/IllegalArgumentException" "java/lang/Throwable" "suppressedExceptions" "Ljava/util/List;") ∈ lw_G := lw_mem 220 (by decide +kernel) (by decide +kernel)
theorem g_221 : (Jvm.Cond.lays "java/lang/IllegalArgumentException" "java/lang/Throwable" "detailMessage" "Ljava/lang/String;") ∈ lw_G := lw_mem 221 (by decide +kernel) (by decide +kernel)
theorem g_222 : (Jvm.Cond.lays "java/lang/IllegalArgumentException" "java/lang/Throwable" "backtrace" "Ljava/lang/Object;") ∈ lw_G := lw_mem 222 (by decide +kernel) (by decide +kernel)
theorem g_224 : (Jvm.Cond.methodLink "ToldRows" (60 : Nat) ({ cls := "java/lang/IllegalArgumentException", name := "<init>", desc := "(Ljava/lang/String;)V" } : Jvm.MethodName)) ∈ lw_G := lw_mem 224 (by decide +kernel) (by decide +kernel)
theorem g_225 : (Jvm.Cond.instanceMethod ({ cls := "java/lang/IllegalArgumentException", name := "<init>", desc := "(Ljava/lang/String;)V" } : Jvm.MethodName)) ∈ lw_G := lw_mem 225 (by decide +kernel) (by decide +kernel)
theorem g_226 : (Jvm.Cond.code ({ cls := "java/lang/IllegalArgumentException", name := "<init>", desc := "(Ljava/lang/String;)V" } : Jvm.MethodName) prog_8_method_2_code (2 : Nat) (Option.none : Option Jvm.ClassFile.FieldType)) ∈ lw_G := lw_mem 226 (by decide +kernel) (by decide +kernel)
theorem g_227 : (Jvm.Cond.methodLink "java/lang/IllegalArgumentException" (7 : Nat) ({ cls := "java/lang/RuntimeException", name := "<init>", desc := "(Ljava/lang/String;)V" } : Jvm.MethodName)) ∈ lw_G := lw_mem 227 (by decide +kernel) (by decide +kernel)
theorem g_228 : (Jvm.Cond.lays "java/lang/IllegalArgumentException" "java/lang/Throwable" "depth" "I") ∈ lw_G := lw_mem 228 (by decide +kernel) (by decide +kernel)
theorem g_230 : (Jvm.Cond.methodLink "ToldRows" (52 : Nat) ({ cls := "ToldRows$Teller", name := "canFollow", desc := "(II)Z" } : Jvm.MethodName)) ∈ lw_G := lw_mem 230 (by decide +kernel) (by decide +kernel)
theorem g_231 : (Jvm.Cond.instanceMethod ({ cls := "ToldRows$Teller", name := "canFollow", desc := "(II)Z" } : Jvm.MethodName)) ∈ lw_G := lw_mem 231 (by decide +kernel) (by decide +kernel)
theorem g_232 : (Jvm.Cond.selects "ToldRows$Teller" ({ cls := "ToldRows$Teller", name := "canFollow", desc := "(II)Z" } : Jvm.MethodName) ({ cls := "ToldRows$Teller", name := "canFollow", desc := "(II)Z" } : Jvm.MethodName)) ∈ lw_G := lw_mem 232 (by decide +kernel) (by decide +kernel)
theorem g_233 : (Jvm.Cond.code ({ cls := "ToldRows$Teller", name := "canFollow", desc := "(II)Z" } : Jvm.MethodName) prog_3_method_2_code (3 : Nat) (Option.some Jvm.ClassFile.FieldType.boolean)) ∈ lw_G := lw_mem 233 (by decide +kernel) (by decide +kernel)
theorem g_235 : (Jvm.Cond.methodLink "ToldRows" (61 : Nat) ({ cls := "ToldRows$Teller", name := "addMark", desc := "(II)V" } : Jvm.MethodName)) ∈ lw_G := lw_mem 235 (by decide +kernel) (by decide +kernel)
theorem g_236 : (Jvm.Cond.instanceMethod ({ cls := "ToldRows$Teller", name := "addMark", desc := "(II)V" } : Jvm.MethodName)) ∈ lw_G := lw_mem 236 (by decide +kernel) (by decide +kernel)
theorem g_237 : (Jvm.Cond.selects "ToldRows$Teller" ({ cls := "ToldRows$Teller", name := "addMark", desc := "(II)V" } : Jvm.MethodName) ({ cls := "ToldRows$Teller", name := "addMark", desc := "(II)V" } : Jvm.MethodName)) ∈ lw_G := lw_mem 237 (by decide +kernel) (by decide +kernel)
theorem g_238 : (Jvm.Cond.code ({ cls := "ToldRows$Teller", name := "addMark", desc := "(II)V" } : Jvm.MethodName) prog_3_method_3_code (3 : Nat) (Option.none : Option Jvm.ClassFile.FieldType)) ∈ lw_G := lw_mem 238 (by decide +kernel) (by decide +kernel)
theorem g_239 : (Jvm.Cond.methodLink "ToldRowsLaw" (76 : Nat) ({ cls := "ToldRowsLaw", name := "real", desc := "(LToldRows;II[J)I" } : Jvm.MethodName)) ∈ lw_G := lw_mem 239 (by decide +kernel) (by decide +kernel)
theorem g_240 : (Jvm.Cond.static ({ cls := "ToldRowsLaw", name := "real", desc := "(LToldRows;II[J)I" } : Jvm.MethodName)) ∈ lw_G := lw_mem 240 (by decide +kernel) (by decide +kernel)
theorem g_241 : (Jvm.Cond.codeWith ({ cls := "ToldRowsLaw", name := "real", desc := "(LToldRows;II[J)I" } : Jvm.MethodName) method_4_code (5 : Nat) (Option.some Jvm.ClassFile.FieldType.int) [((0 : Nat), (10 : Nat), (13 : Nat), (13 : Nat)), ((0 : Nat), (10 : Nat), (17 : Nat), (17 : Nat))]) ∈ lw_G := lw_mem 241 (by decide +kernel) (by decide +kernel)
theorem g_242 : (Jvm.Cond.methodLink "ToldRowsLaw" (19 : Nat) ({ cls := "ToldRows", name := "real", desc := "(II)I" } : Jvm.MethodName)) ∈ lw_G := lw_mem 242 (by decide +kernel) (by decide +kernel)
theorem g_243 : (Jvm.Cond.instanceMethod ({ cls := "ToldRows", name := "real", desc := "(II)I" } : Jvm.MethodName)) ∈ lw_G := lw_mem 243 (by decide +kernel) (by decide +kernel)
theorem g_244 : (Jvm.Cond.selects "ToldRows" ({ cls := "ToldRows", name := "real", desc := "(II)I" } : Jvm.MethodName) ({ cls := "ToldRows", name := "real", desc := "(II)I" } : Jvm.MethodName)) ∈ lw_G := lw_mem 244 (by decide +kernel) (by decide +kernel)
theorem g_245 : (Jvm.Cond.code ({ cls := "ToldRows", name := "real", desc := "(II)I" } : Jvm.MethodName) prog_1_method_3_code (3 : Nat) (Option.some Jvm.ClassFile.FieldType.int)) ∈ lw_G := lw_mem 245 (by decide +kernel) (by decide +kernel)
theorem g_246 : (Jvm.Cond.methodLink "ToldRows" (65 : Nat) ({ cls := "ToldRows$Teller", name := "realTime", desc := "(I)I" } : Jvm.MethodName)) ∈ lw_G := lw_mem 246 (by decide +kernel) (by decide +kernel)
theorem g_247 : (Jvm.Cond.instanceMethod ({ cls := "ToldRows$Teller", name := "realTime", desc := "(I)I" } : Jvm.MethodName)) ∈ lw_G := lw_mem 247 (by decide +kernel) (by decide +kernel)
theorem g_248 : (Jvm.Cond.selects "ToldRows$Teller" ({ cls := "ToldRows$Teller", name := "realTime", desc := "(I)I" } : Jvm.MethodName) ({ cls := "ToldRows$Teller", name := "realTime", desc := "(I)I" } : Jvm.MethodName)) ∈ lw_G := lw_mem 248 (by decide +kernel) (by decide +kernel)
theorem g_249 : (Jvm.Cond.code ({ cls := "ToldRows$Teller", name := "realTime", desc := "(I)I" } : Jvm.MethodName) prog_3_method_4_code (4 : Nat) (Option.some Jvm.ClassFile.FieldType.int)) ∈ lw_G := lw_mem 249 (by decide +kernel) (by decide +kernel)
theorem g_250 : (Jvm.Cond.methodLink "ToldRows$Teller" (22 : Nat) ({ cls := "ToldRows$Teller", name := "marksUpTo", desc := "(I)I" } : Jvm.MethodName)) ∈ lw_G := lw_mem 250 (by decide +kernel) (by decide +kernel)
theorem g_251 : (Jvm.Cond.instanceMethod ({ cls := "ToldRows$Teller", name := "marksUpTo", desc := "(I)I" } : Jvm.MethodName)) ∈ lw_G := lw_mem 251 (by decide +kernel) (by decide +kernel)
theorem g_252 : (Jvm.Cond.selects "ToldRows$Teller" ({ cls := "ToldRows$Teller", name := "marksUpTo", desc := "(I)I" } : Jvm.MethodName) ({ cls := "ToldRows$Teller", name := "marksUpTo", desc := "(I)I" } : Jvm.MethodName)) ∈ lw_G := lw_mem 252 (by decide +kernel) (by decide +kernel)
theorem g_253 : (Jvm.Cond.code ({ cls := "ToldRows$Teller", name := "marksUpTo", desc := "(I)I" } : Jvm.MethodName) prog_3_method_5_code (3 : Nat) (Option.some Jvm.ClassFile.FieldType.int)) ∈ lw_G := lw_mem 253 (by decide +kernel) (by decide +kernel)
theorem g_254 : (Jvm.Cond.methodLink "ToldRows$Teller" (26 : Nat) ({ cls := "ToldRows$Teller", name := "realBetween", desc := "(II)I" } : Jvm.MethodName)) ∈ lw_G := lw_mem 254 (by decide +kernel) (by decide +kernel)
theorem g_255 : (Jvm.Cond.instanceMethod ({ cls := "ToldRows$Teller", name := "realBetween", desc := "(II)I" } : Jvm.MethodName)) ∈ lw_G := lw_mem 255 (by decide +kernel) (by decide +kernel)
theorem g_256 : (Jvm.Cond.selects "ToldRows$Teller" ({ cls := "ToldRows$Teller", name := "realBetween", desc := "(II)I" } : Jvm.MethodName) ({ cls := "ToldRows$Teller", name := "realBetween", desc := "(II)I" } : Jvm.MethodName)) ∈ lw_G := lw_mem 256 (by decide +kernel) (by decide +kernel)
theorem g_257 : (Jvm.Cond.code ({ cls := "ToldRows$Teller", name := "realBetween", desc := "(II)I" } : Jvm.MethodName) prog_3_method_6_code (6 : Nat) (Option.some Jvm.ClassFile.FieldType.int)) ∈ lw_G := lw_mem 257 (by decide +kernel) (by decide +kernel)
theorem g_258 : (Jvm.Cond.methodLink "ToldRowsLaw" (82 : Nat) ({ cls := "ToldRowsLaw", name := "tell", desc := "(LToldRows;IIJI[J)I" } : Jvm.MethodName)) ∈ lw_G := lw_mem 258 (by decide +kernel) (by decide +kernel)
theorem g_259 : (Jvm.Cond.static ({ cls := "ToldRowsLaw", name := "tell", desc := "(LToldRows;IIJI[J)I" } : Jvm.MethodName)) ∈ lw_G := lw_mem 259 (by decide +kernel) (by decide +kernel)
theorem g_260 : (Jvm.Cond.codeWith ({ cls := "ToldRowsLaw", name := "tell", desc := "(LToldRows;IIJI[J)I" } : Jvm.MethodName) method_5_code (8 : Nat) (Option.some Jvm.ClassFile.FieldType.int) [((0 : Nat), (14 : Nat), (17 : Nat), (13 : Nat)), ((0 : Nat), (14 : Nat), (21 : Nat), (17 : Nat)), ((0 : Nat), (14 : Nat), (25 : Nat), (27 : Nat))]) ∈ lw_G := lw_mem 260 (by decide +kernel) (by decide +kernel)
theorem g_261 : (Jvm.Cond.classLink "ToldRowsLaw" (27 : Nat) "java/lang/UnsupportedOperationException") ∈ lw_G := lw_mem 261 (by decide +kernel) (by decide +kernel)
theorem g_262 : (Jvm.Cond.methodLink "ToldRowsLaw" (23 : Nat) ({ cls := "ToldRows", name := "tell", desc := "(IIJI)I" } : Jvm.MethodName)) ∈ lw_G := lw_mem 262 (by decide +kernel) (by decide +kernel)
theorem g_263 : (Jvm.Cond.instanceMethod ({ cls := "ToldRows", name := "tell", desc := "(IIJI)I" } : Jvm.MethodName)) ∈ lw_G := lw_mem 263 (by decide +kernel) (by decide +kernel)
theorem g_264 : (Jvm.Cond.selects "ToldRows" ({ cls := "ToldRows", name := "tell", desc := "(IIJI)I" } : Jvm.MethodName) ({ cls := "ToldRows", name := "tell", desc := "(IIJI)I" } : Jvm.MethodName)) ∈ lw_G := lw_mem 264 (by decide +kernel) (by decide +kernel)
theorem g_265 : (Jvm.Cond.code ({ cls := "ToldRows", name := "tell", desc := "(IIJI)I" } : Jvm.MethodName) prog_1_method_4_code (11 : Nat) (Option.some Jvm.ClassFile.FieldType.int)) ∈ lw_G := lw_mem 265 (by decide +kernel) (by decide +kernel)
theorem g_266 : (Jvm.Cond.methodLink "ToldRows" (69 : Nat) ({ cls := "ToldRows", name := "needDesk", desc := "(I)V" } : Jvm.MethodName)) ∈ lw_G := lw_mem 266 (by decide +kernel) (by decide +kernel)
theorem g_267 : (Jvm.Cond.static ({ cls := "ToldRows", name := "needDesk", desc := "(I)V" } : Jvm.MethodName)) ∈ lw_G := lw_mem 267 (by decide +kernel) (by decide +kernel)
theorem g_268 : (Jvm.Cond.code ({ cls := "ToldRows", name := "needDesk", desc := "(I)V" } : Jvm.MethodName) prog_1_method_16_code (1 : Nat) (Option.none : Option Jvm.ClassFile.FieldType)) ∈ lw_G := lw_mem 268 (by decide +kernel) (by decide +kernel)
theorem g_270 : (Jvm.Cond.methodLink "ToldRows" (72 : Nat) ({ cls := "ToldRows", name := "needTold", desc := "(J)V" } : Jvm.MethodName)) ∈ lw_G := lw_mem 270 (by decide +kernel) (by decide +kernel)
theorem g_271 : (Jvm.Cond.static ({ cls := "ToldRows", name := "needTold", desc := "(J)V" } : Jvm.MethodName)) ∈ lw_G := lw_mem 271 (by decide +kernel) (by decide +kernel)
theorem g_272 : (Jvm.Cond.code ({ cls := "ToldRows", name := "needTold", desc := "(J)V" } : Jvm.MethodName) prog_1_method_19_code (2 : Nat) (Option.none : Option Jvm.ClassFile.FieldType)) ∈ lw_G := lw_mem 272 (by decide +kernel) (by decide +kernel)
theorem g_274 : (Jvm.Cond.methodLink "ToldRows" (201 : Nat) ({ cls := "ToldRows", name := "timeIn", desc := "(I)I" } : Jvm.MethodName)) ∈ lw_G := lw_mem 274 (by decide +kernel) (by decide +kernel)
theorem g_275 : (Jvm.Cond.static ({ cls := "ToldRows", name := "timeIn", desc := "(I)I" } : Jvm.MethodName)) ∈ lw_G := lw_mem 275 (by decide +kernel) (by decide +kernel)
theorem g_276 : (Jvm.Cond.code ({ cls := "ToldRows", name := "timeIn", desc := "(I)I" } : Jvm.MethodName) prog_1_method_22_code (1 : Nat) (Option.some Jvm.ClassFile.FieldType.int)) ∈ lw_G := lw_mem 276 (by decide +kernel) (by decide +kernel)
theorem g_277 : (Jvm.Cond.methodLink "ToldRows" (206 : Nat) ({ cls := "ToldRows", name := "lowBits", desc := "(II)I" } : Jvm.MethodName)) ∈ lw_G := lw_mem 277 (by decide +kernel) (by decide +kernel)
theorem g_278 : (Jvm.Cond.static ({ cls := "ToldRows", name := "lowBits", desc := "(II)I" } : Jvm.MethodName)) ∈ lw_G := lw_mem 278 (by decide +kernel) (by decide +kernel)
theorem g_279 : (Jvm.Cond.code ({ cls := "ToldRows", name := "lowBits", desc := "(II)I" } : Jvm.MethodName) prog_1_method_21_code (2 : Nat) (Option.some Jvm.ClassFile.FieldType.int)) ∈ lw_G := lw_mem 279 (by decide +kernel) (by decide +kernel)
theorem g_280 : (Jvm.Cond.methodLink "ToldRows" (79 : Nat) ({ cls := "ToldRows", name := "numberIn", desc := "(I)I" } : Jvm.MethodName)) ∈ lw_G := lw_mem 280 (by decide +kernel) (by decide +kernel)
theorem g_281 : (Jvm.Cond.static ({ cls := "ToldRows", name := "numberIn", desc := "(I)I" } : Jvm.MethodName)) ∈ lw_G := lw_mem 281 (by decide +kernel) (by decide +kernel)
theorem g_282 : (Jvm.Cond.code ({ cls := "ToldRows", name := "numberIn", desc := "(I)I" } : Jvm.MethodName) prog_1_method_24_code (1 : Nat) (Option.some Jvm.ClassFile.FieldType.int)) ∈ lw_G := lw_mem 282 (by decide +kernel) (by decide +kernel)
theorem g_284 : (Jvm.Cond.methodLink "ToldRows" (82 : Nat) ({ cls := "ToldRows", name := "nameOf", desc := "(III)I" } : Jvm.MethodName)) ∈ lw_G := lw_mem 284 (by decide +kernel) (by decide +kernel)
theorem g_285 : (Jvm.Cond.static ({ cls := "ToldRows", name := "nameOf", desc := "(III)I" } : Jvm.MethodName)) ∈ lw_G := lw_mem 285 (by decide +kernel) (by decide +kernel)
theorem g_286 : (Jvm.Cond.code ({ cls := "ToldRows", name := "nameOf", desc := "(III)I" } : Jvm.MethodName) prog_1_method_25_code (3 : Nat) (Option.some Jvm.ClassFile.FieldType.int)) ∈ lw_G := lw_mem 286 (by decide +kernel) (by decide +kernel)
theorem g_287 : (Jvm.Cond.methodLink "ToldRows" (86 : Nat) ({ cls := "ToldRows$Tellings", name := "find", desc := "(III)I" } : Jvm.MethodName)) ∈ lw_G := lw_mem 287 (by decide +kernel) (by decide +kernel)
theorem g_288 : (Jvm.Cond.instanceMethod ({ cls := "ToldRows$Tellings", name := "find", desc := "(III)I" } : Jvm.MethodName)) ∈ lw_G := lw_mem 288 (by decide +kernel) (by decide +kernel)
theorem g_289 : (Jvm.Cond.selects "ToldRows$Tellings" ({ cls := "ToldRows$Tellings", name := "find", desc := "(III)I" } : Jvm.MethodName) ({ cls := "ToldRows$Tellings", name := "find", desc := "(III)I" } : Jvm.MethodName)) ∈ lw_G := lw_mem 289 (by decide +kernel) (by decide +kernel)
theorem g_290 : (Jvm.Cond.code ({ cls := "ToldRows$Tellings", name := "find", desc := "(III)I" } : Jvm.MethodName) prog_4_method_2_code (5 : Nat) (Option.some Jvm.ClassFile.FieldType.int)) ∈ lw_G := lw_mem 290 (by decide +kernel) (by decide +kernel)
theorem g_291 : (Jvm.Cond.classLink "ToldRows" (92 : Nat) "java/lang/UnsupportedOperationException") ∈ lw_G := lw_mem 291 (by decide +kernel) (by decide +kernel)
theorem g_292 : (Jvm.Cond.instantiable "java/lang/UnsupportedOperationException" (6 : Nat)) ∈ lw_G := lw_mem 292 (by decide +kernel) (by decide +kernel)
theorem g_294 : (Jvm.Cond.selects "java/lang/UnsupportedOperationException" ({ cls := "java/lang/Throwable", name := "fillInStackTrace", desc := "(I)Ljava/lang/Throwable;" } : Jvm.MethodName) ({ cls := "java/lang/Throwable", name := "fillInStackTrace", desc := "(I)Ljava/lang/Throwable;" } : Jvm.MethodName)) ∈ lw_G := lw_mem 294 (by decide +kernel) (by decide +kernel)
theorem g_295 : (Jvm.Cond.lays "java/lang/UnsupportedOperationException" "java/lang/Throwable" "cause" "Ljava/lang/Throwable;") ∈ lw_G := lw_mem 295 (by decide +kernel) (by decide +kernel)
theorem g_296 : (Jvm.Cond.lays "java/lang/UnsupportedOperationException" "java/lang/Throwable" "stackTrace" "[Ljava/lang/StackTraceElement;") ∈ lw_G := lw_mem 296 (by decide +kernel) (by decide +kernel)
theorem g_297 : (Jvm.Cond.lays "java/lang/UnsupportedOperationException" "java/lang/Throwable" "suppressedExceptions" "Ljava/util/List;") ∈ lw_G := lw_mem 297 (by decide +kernel) (by decide +kernel)
theorem g_298 : (Jvm.Cond.lays "java/lang/UnsupportedOperationException" "java/lang/Throwable" "detailMessage" "Ljava/lang/String;") ∈ lw_G := lw_mem 298 (by decide +kernel) (by decide +kernel)
theorem g_299 : (Jvm.Cond.lays "java/lang/UnsupportedOperationException" "java/lang/Throwable" "backtrace" "Ljava/lang/Object;") ∈ lw_G := lw_mem 299 (by decide +kernel) (by decide +kernel)
theorem g_301 : (Jvm.Cond.methodLink "ToldRows" (96 : Nat) ({ cls := "java/lang/UnsupportedOperationException", name := "<init>", desc := "(Ljava/lang/String;)V" } : Jvm.MethodName)) ∈ lw_G := lw_mem 301 (by decide +kernel) (by decide +kernel)
theorem g_302 : (Jvm.Cond.instanceMethod ({ cls := "java/lang/UnsupportedOperationException", name := "<init>", desc := "(Ljava/lang/String;)V" } : Jvm.MethodName)) ∈ lw_G := lw_mem 302 (by decide +kernel) (by decide +kernel)
theorem g_303 : (Jvm.Cond.code ({ cls := "java/lang/UnsupportedOperationException", name := "<init>", desc := "(Ljava/lang/String;)V" } : Jvm.MethodName) prog_15_method_2_code (2 : Nat) (Option.none : Option Jvm.ClassFile.FieldType)) ∈ lw_G := lw_mem 303 (by decide +kernel) (by decide +kernel)
theorem g_304 : (Jvm.Cond.methodLink "java/lang/UnsupportedOperationException" (7 : Nat) ({ cls := "java/lang/RuntimeException", name := "<init>", desc := "(Ljava/lang/String;)V" } : Jvm.MethodName)) ∈ lw_G := lw_mem 304 (by decide +kernel) (by decide +kernel)
theorem g_305 : (Jvm.Cond.lays "java/lang/UnsupportedOperationException" "java/lang/Throwable" "depth" "I") ∈ lw_G := lw_mem 305 (by decide +kernel) (by decide +kernel)
theorem g_307 : (Jvm.Cond.methodLink "ToldRows" (97 : Nat) ({ cls := "ToldRows$Desk", name := "has", desc := "(I)Z" } : Jvm.MethodName)) ∈ lw_G := lw_mem 307 (by decide +kernel) (by decide +kernel)
theorem g_308 : (Jvm.Cond.instanceMethod ({ cls := "ToldRows$Desk", name := "has", desc := "(I)Z" } : Jvm.MethodName)) ∈ lw_G := lw_mem 308 (by decide +kernel) (by decide +kernel)
theorem g_309 : (Jvm.Cond.selects "ToldRows$Desk" ({ cls := "ToldRows$Desk", name := "has", desc := "(I)Z" } : Jvm.MethodName) ({ cls := "ToldRows$Desk", name := "has", desc := "(I)Z" } : Jvm.MethodName)) ∈ lw_G := lw_mem 309 (by decide +kernel) (by decide +kernel)
theorem g_310 : (Jvm.Cond.code ({ cls := "ToldRows$Desk", name := "has", desc := "(I)Z" } : Jvm.MethodName) prog_2_method_2_code (2 : Nat) (Option.some Jvm.ClassFile.FieldType.boolean)) ∈ lw_G := lw_mem 310 (by decide +kernel) (by decide +kernel)
theorem g_311 : (Jvm.Cond.methodLink "ToldRows" (101 : Nat) ({ cls := "ToldRows$Tellings", name := "add", desc := "(III)I" } : Jvm.MethodName)) ∈ lw_G := lw_mem 311 (by decide +kernel) (by decide +kernel)
theorem g_312 : (Jvm.Cond.instanceMethod ({ cls := "ToldRows$Tellings", name := "add", desc := "(III)I" } : Jvm.MethodName)) ∈ lw_G := lw_mem 312 (by decide +kernel) (by decide +kernel)
theorem g_313 : (Jvm.Cond.selects "ToldRows$Tellings" ({ cls := "ToldRows$Tellings", name := "add", desc := "(III)I" } : Jvm.MethodName) ({ cls := "ToldRows$Tellings", name := "add", desc := "(III)I" } : Jvm.MethodName)) ∈ lw_G := lw_mem 313 (by decide +kernel) (by decide +kernel)
theorem g_314 : (Jvm.Cond.code ({ cls := "ToldRows$Tellings", name := "add", desc := "(III)I" } : Jvm.MethodName) prog_4_method_4_code (5 : Nat) (Option.some Jvm.ClassFile.FieldType.int)) ∈ lw_G := lw_mem 314 (by decide +kernel) (by decide +kernel)
theorem g_315 : (Jvm.Cond.methodLink "ToldRows" (104 : Nat) ({ cls := "ToldRows", name := "hasRival", desc := "(LToldRows$Desk;I)Z" } : Jvm.MethodName)) ∈ lw_G := lw_mem 315 (by decide +kernel) (by decide +kernel)
theorem g_317 : (Jvm.Cond.instanceMethod ({ cls := "ToldRows", name := "hasRival", desc := "(LToldRows$Desk;I)Z" } : Jvm.MethodName)) ∈ lw_G := lw_mem 317 (by decide +kernel) (by decide +kernel)
theorem g_318 : (Jvm.Cond.code ({ cls := "ToldRows", name := "hasRival", desc := "(LToldRows$Desk;I)Z" } : Jvm.MethodName) prog_1_method_26_code (4 : Nat) (Option.some Jvm.ClassFile.FieldType.boolean)) ∈ lw_G := lw_mem 318 (by decide +kernel) (by decide +kernel)
theorem g_319 : (Jvm.Cond.methodLink "ToldRows" (209 : Nat) ({ cls := "ToldRows$Tellings", name := "areRivals", desc := "(II)Z" } : Jvm.MethodName)) ∈ lw_G := lw_mem 319 (by decide +kernel) (by decide +kernel)
theorem g_320 : (Jvm.Cond.instanceMethod ({ cls := "ToldRows$Tellings", name := "areRivals", desc := "(II)Z" } : Jvm.MethodName)) ∈ lw_G := lw_mem 320 (by decide +kernel) (by decide +kernel)
theorem g_321 : (Jvm.Cond.selects "ToldRows$Tellings" ({ cls := "ToldRows$Tellings", name := "areRivals", desc := "(II)Z" } : Jvm.MethodName) ({ cls := "ToldRows$Tellings", name := "areRivals", desc := "(II)Z" } : Jvm.MethodName)) ∈ lw_G := lw_mem 321 (by decide +kernel) (by decide +kernel)
theorem g_322 : (Jvm.Cond.code ({ cls := "ToldRows$Tellings", name := "areRivals", desc := "(II)Z" } : Jvm.MethodName) prog_4_method_6_code (3 : Nat) (Option.some Jvm.ClassFile.FieldType.boolean)) ∈ lw_G := lw_mem 322 (by decide +kernel) (by decide +kernel)
theorem g_323 : (Jvm.Cond.methodLink "ToldRows" (108 : Nat) ({ cls := "ToldRows$Desk", name := "take", desc := "(I)V" } : Jvm.MethodName)) ∈ lw_G := lw_mem 323 (by decide +kernel) (by decide +kernel)
theorem g_324 : (Jvm.Cond.instanceMethod ({ cls := "ToldRows$Desk", name := "take", desc := "(I)V" } : Jvm.MethodName)) ∈ lw_G := lw_mem 324 (by decide +kernel) (by decide +kernel)
theorem g_325 : (Jvm.Cond.selects "ToldRows$Desk" ({ cls := "ToldRows$Desk", name := "take", desc := "(I)V" } : Jvm.MethodName) ({ cls := "ToldRows$Desk", name := "take", desc := "(I)V" } : Jvm.MethodName)) ∈ lw_G := lw_mem 325 (by decide +kernel) (by decide +kernel)
theorem g_326 : (Jvm.Cond.code ({ cls := "ToldRows$Desk", name := "take", desc := "(I)V" } : Jvm.MethodName) prog_2_method_5_code (2 : Nat) (Option.none : Option Jvm.ClassFile.FieldType)) ∈ lw_G := lw_mem 326 (by decide +kernel) (by decide +kernel)
theorem g_327 : (Jvm.Cond.methodLink "ToldRowsLaw" (86 : Nat) ({ cls := "ToldRowsLaw", name := "restart", desc := "(LToldRows;I[J)I" } : Jvm.MethodName)) ∈ lw_G := lw_mem 327 (by decide +kernel) (by decide +kernel)
theorem g_328 : (Jvm.Cond.static ({ cls := "ToldRowsLaw", name := "restart", desc := "(LToldRows;I[J)I" } : Jvm.MethodName)) ∈ lw_G := lw_mem 328 (by decide +kernel) (by decide +kernel)
theorem g_329 : (Jvm.Cond.codeWith ({ cls := "ToldRowsLaw", name := "restart", desc := "(LToldRows;I[J)I" } : Jvm.MethodName) method_6_code (4 : Nat) (Option.some Jvm.ClassFile.FieldType.int) [((0 : Nat), (9 : Nat), (12 : Nat), (13 : Nat)), ((0 : Nat), (9 : Nat), (15 : Nat), (15 : Nat))]) ∈ lw_G := lw_mem 329 (by decide +kernel) (by decide +kernel)
theorem g_330 : (Jvm.Cond.methodLink "ToldRowsLaw" (29 : Nat) ({ cls := "ToldRows", name := "restart", desc := "(I)I" } : Jvm.MethodName)) ∈ lw_G := lw_mem 330 (by decide +kernel) (by decide +kernel)
theorem g_331 : (Jvm.Cond.instanceMethod ({ cls := "ToldRows", name := "restart", desc := "(I)I" } : Jvm.MethodName)) ∈ lw_G := lw_mem 331 (by decide +kernel) (by decide +kernel)
theorem g_332 : (Jvm.Cond.selects "ToldRows" ({ cls := "ToldRows", name := "restart", desc := "(I)I" } : Jvm.MethodName) ({ cls := "ToldRows", name := "restart", desc := "(I)I" } : Jvm.MethodName)) ∈ lw_G := lw_mem 332 (by decide +kernel) (by decide +kernel)
theorem g_333 : (Jvm.Cond.code ({ cls := "ToldRows", name := "restart", desc := "(I)I" } : Jvm.MethodName) prog_1_method_5_code (3 : Nat) (Option.some Jvm.ClassFile.FieldType.int)) ∈ lw_G := lw_mem 333 (by decide +kernel) (by decide +kernel)
theorem g_335 : (Jvm.Cond.methodLink "ToldRowsLaw" (90 : Nat) ({ cls := "ToldRowsLaw", name := "join", desc := "(LToldRows;II[J)I" } : Jvm.MethodName)) ∈ lw_G := lw_mem 335 (by decide +kernel) (by decide +kernel)
theorem g_336 : (Jvm.Cond.static ({ cls := "ToldRowsLaw", name := "join", desc := "(LToldRows;II[J)I" } : Jvm.MethodName)) ∈ lw_G := lw_mem 336 (by decide +kernel) (by decide +kernel)
theorem g_337 : (Jvm.Cond.codeWith ({ cls := "ToldRowsLaw", name := "join", desc := "(LToldRows;II[J)I" } : Jvm.MethodName) method_7_code (5 : Nat) (Option.some Jvm.ClassFile.FieldType.int) [((0 : Nat), (10 : Nat), (13 : Nat), (13 : Nat))]) ∈ lw_G := lw_mem 337 (by decide +kernel) (by decide +kernel)
theorem g_338 : (Jvm.Cond.methodLink "ToldRowsLaw" (33 : Nat) ({ cls := "ToldRows", name := "join", desc := "(II)I" } : Jvm.MethodName)) ∈ lw_G := lw_mem 338 (by decide +kernel) (by decide +kernel)
theorem g_339 : (Jvm.Cond.instanceMethod ({ cls := "ToldRows", name := "join", desc := "(II)I" } : Jvm.MethodName)) ∈ lw_G := lw_mem 339 (by decide +kernel) (by decide +kernel)
theorem g_340 : (Jvm.Cond.selects "ToldRows" ({ cls := "ToldRows", name := "join", desc := "(II)I" } : Jvm.MethodName) ({ cls := "ToldRows", name := "join", desc := "(II)I" } : Jvm.MethodName)) ∈ lw_G := lw_mem 340 (by decide +kernel) (by decide +kernel)
theorem g_341 : (Jvm.Cond.code ({ cls := "ToldRows", name := "join", desc := "(II)I" } : Jvm.MethodName) prog_1_method_6_code (7 : Nat) (Option.some Jvm.ClassFile.FieldType.int)) ∈ lw_G := lw_mem 341 (by decide +kernel) (by decide +kernel)
theorem g_343 : (Jvm.Cond.methodLink "ToldRows" (118 : Nat) ({ cls := "ToldRows$Desk", name := "hasSeen", desc := "(I)Z" } : Jvm.MethodName)) ∈ lw_G := lw_mem 343 (by decide +kernel) (by decide +kernel)
theorem g_344 : (Jvm.Cond.instanceMethod ({ cls := "ToldRows$Desk", name := "hasSeen", desc := "(I)Z" } : Jvm.MethodName)) ∈ lw_G := lw_mem 344 (by decide +kernel) (by decide +kernel)
theorem g_345 : (Jvm.Cond.selects "ToldRows$Desk" ({ cls := "ToldRows$Desk", name := "hasSeen", desc := "(I)Z" } : Jvm.MethodName) ({ cls := "ToldRows$Desk", name := "hasSeen", desc := "(I)Z" } : Jvm.MethodName)) ∈ lw_G := lw_mem 345 (by decide +kernel) (by decide +kernel)
theorem g_346 : (Jvm.Cond.code ({ cls := "ToldRows$Desk", name := "hasSeen", desc := "(I)Z" } : Jvm.MethodName) prog_2_method_3_code (2 : Nat) (Option.some Jvm.ClassFile.FieldType.boolean)) ∈ lw_G := lw_mem 346 (by decide +kernel) (by decide +kernel)
theorem g_347 : (Jvm.Cond.methodLink "ToldRowsLaw" (93 : Nat) ({ cls := "ToldRowsLaw", name := "batch", desc := "(LToldRows;IZ[J)I" } : Jvm.MethodName)) ∈ lw_G := lw_mem 347 (by decide +kernel) (by decide +kernel)
theorem g_348 : (Jvm.Cond.static ({ cls := "ToldRowsLaw", name := "batch", desc := "(LToldRows;IZ[J)I" } : Jvm.MethodName)) ∈ lw_G := lw_mem 348 (by decide +kernel) (by decide +kernel)
theorem g_349 : (Jvm.Cond.codeWith ({ cls := "ToldRowsLaw", name := "batch", desc := "(LToldRows;IZ[J)I" } : Jvm.MethodName) method_8_code (5 : Nat) (Option.some Jvm.ClassFile.FieldType.int) [((0 : Nat), (10 : Nat), (13 : Nat), (13 : Nat)), ((0 : Nat), (10 : Nat), (17 : Nat), (15 : Nat))]) ∈ lw_G := lw_mem 349 (by decide +kernel) (by decide +kernel)
theorem g_350 : (Jvm.Cond.methodLink "ToldRowsLaw" (36 : Nat) ({ cls := "ToldRows", name := "batch", desc := "(IZ)I" } : Jvm.MethodName)) ∈ lw_G := lw_mem 350 (by decide +kernel) (by decide +kernel)
theorem g_351 : (Jvm.Cond.instanceMethod ({ cls := "ToldRows", name := "batch", desc := "(IZ)I" } : Jvm.MethodName)) ∈ lw_G := lw_mem 351 (by decide +kernel) (by decide +kernel)
theorem g_352 : (Jvm.Cond.selects "ToldRows" ({ cls := "ToldRows", name := "batch", desc := "(IZ)I" } : Jvm.MethodName) ({ cls := "ToldRows", name := "batch", desc := "(IZ)I" } : Jvm.MethodName)) ∈ lw_G := lw_mem 352 (by decide +kernel) (by decide +kernel)
theorem g_353 : (Jvm.Cond.code ({ cls := "ToldRows", name := "batch", desc := "(IZ)I" } : Jvm.MethodName) prog_1_method_7_code (4 : Nat) (Option.some Jvm.ClassFile.FieldType.int)) ∈ lw_G := lw_mem 353 (by decide +kernel) (by decide +kernel)
theorem g_355 : (Jvm.Cond.methodLink "ToldRows" (127 : Nat) ({ cls := "ToldRows$Desk", name := "endBatch", desc := "()V" } : Jvm.MethodName)) ∈ lw_G := lw_mem 355 (by decide +kernel) (by decide +kernel)
theorem g_356 : (Jvm.Cond.instanceMethod ({ cls := "ToldRows$Desk", name := "endBatch", desc := "()V" } : Jvm.MethodName)) ∈ lw_G := lw_mem 356 (by decide +kernel) (by decide +kernel)
theorem g_357 : (Jvm.Cond.selects "ToldRows$Desk" ({ cls := "ToldRows$Desk", name := "endBatch", desc := "()V" } : Jvm.MethodName) ({ cls := "ToldRows$Desk", name := "endBatch", desc := "()V" } : Jvm.MethodName)) ∈ lw_G := lw_mem 357 (by decide +kernel) (by decide +kernel)
theorem g_358 : (Jvm.Cond.code ({ cls := "ToldRows$Desk", name := "endBatch", desc := "()V" } : Jvm.MethodName) prog_2_method_6_code (2 : Nat) (Option.none : Option Jvm.ClassFile.FieldType)) ∈ lw_G := lw_mem 358 (by decide +kernel) (by decide +kernel)
theorem g_359 : (Jvm.Cond.methodLink "ToldRowsLaw" (97 : Nat) ({ cls := "ToldRowsLaw", name := "same", desc := "(LToldRows;II[J)I" } : Jvm.MethodName)) ∈ lw_G := lw_mem 359 (by decide +kernel) (by decide +kernel)
theorem g_360 : (Jvm.Cond.static ({ cls := "ToldRowsLaw", name := "same", desc := "(LToldRows;II[J)I" } : Jvm.MethodName)) ∈ lw_G := lw_mem 360 (by decide +kernel) (by decide +kernel)
theorem g_361 : (Jvm.Cond.codeWith ({ cls := "ToldRowsLaw", name := "same", desc := "(LToldRows;II[J)I" } : Jvm.MethodName) method_9_code (5 : Nat) (Option.some Jvm.ClassFile.FieldType.int) [((0 : Nat), (17 : Nat), (20 : Nat), (13 : Nat))]) ∈ lw_G := lw_mem 361 (by decide +kernel) (by decide +kernel)
theorem g_362 : (Jvm.Cond.methodLink "ToldRowsLaw" (40 : Nat) ({ cls := "ToldRows", name := "same", desc := "(II)Z" } : Jvm.MethodName)) ∈ lw_G := lw_mem 362 (by decide +kernel) (by decide +kernel)
theorem g_363 : (Jvm.Cond.instanceMethod ({ cls := "ToldRows", name := "same", desc := "(II)Z" } : Jvm.MethodName)) ∈ lw_G := lw_mem 363 (by decide +kernel) (by decide +kernel)
theorem g_364 : (Jvm.Cond.selects "ToldRows" ({ cls := "ToldRows", name := "same", desc := "(II)Z" } : Jvm.MethodName) ({ cls := "ToldRows", name := "same", desc := "(II)Z" } : Jvm.MethodName)) ∈ lw_G := lw_mem 364 (by decide +kernel) (by decide +kernel)
theorem g_365 : (Jvm.Cond.code ({ cls := "ToldRows", name := "same", desc := "(II)Z" } : Jvm.MethodName) prog_1_method_8_code (6 : Nat) (Option.some Jvm.ClassFile.FieldType.boolean)) ∈ lw_G := lw_mem 365 (by decide +kernel) (by decide +kernel)
theorem g_366 : (Jvm.Cond.methodLink "ToldRowsLaw" (100 : Nat) ({ cls := "ToldRowsLaw", name := "conflicts", desc := "(LToldRows;I[J)I" } : Jvm.MethodName)) ∈ lw_G := lw_mem 366 (by decide +kernel) (by decide +kernel)
theorem g_367 : (Jvm.Cond.static ({ cls := "ToldRowsLaw", name := "conflicts", desc := "(LToldRows;I[J)I" } : Jvm.MethodName)) ∈ lw_G := lw_mem 367 (by decide +kernel) (by decide +kernel)
theorem g_368 : (Jvm.Cond.codeWith ({ cls := "ToldRowsLaw", name := "conflicts", desc := "(LToldRows;I[J)I" } : Jvm.MethodName) method_10_code (4 : Nat) (Option.some Jvm.ClassFile.FieldType.int) [((0 : Nat), (9 : Nat), (12 : Nat), (13 : Nat))]) ∈ lw_G := lw_mem 368 (by decide +kernel) (by decide +kernel)
theorem g_369 : (Jvm.Cond.methodLink "ToldRowsLaw" (44 : Nat) ({ cls := "ToldRows", name := "conflicts", desc := "(I)I" } : Jvm.MethodName)) ∈ lw_G := lw_mem 369 (by decide +kernel) (by decide +kernel)
theorem g_370 : (Jvm.Cond.instanceMethod ({ cls := "ToldRows", name := "conflicts", desc := "(I)I" } : Jvm.MethodName)) ∈ lw_G := lw_mem 370 (by decide +kernel) (by decide +kernel)
theorem g_371 : (Jvm.Cond.selects "ToldRows" ({ cls := "ToldRows", name := "conflicts", desc := "(I)I" } : Jvm.MethodName) ({ cls := "ToldRows", name := "conflicts", desc := "(I)I" } : Jvm.MethodName)) ∈ lw_G := lw_mem 371 (by decide +kernel) (by decide +kernel)
theorem g_372 : (Jvm.Cond.code ({ cls := "ToldRows", name := "conflicts", desc := "(I)I" } : Jvm.MethodName) prog_1_method_9_code (5 : Nat) (Option.some Jvm.ClassFile.FieldType.int)) ∈ lw_G := lw_mem 372 (by decide +kernel) (by decide +kernel)
theorem g_373 : (Jvm.Cond.methodLink "ToldRows" (133 : Nat) ({ cls := "ToldRows", name := "beginsConflict", desc := "(LToldRows$Desk;I)Z" } : Jvm.MethodName)) ∈ lw_G := lw_mem 373 (by decide +kernel) (by decide +kernel)
theorem g_375 : (Jvm.Cond.instanceMethod ({ cls := "ToldRows", name := "beginsConflict", desc := "(LToldRows$Desk;I)Z" } : Jvm.MethodName)) ∈ lw_G := lw_mem 375 (by decide +kernel) (by decide +kernel)
theorem g_376 : (Jvm.Cond.code ({ cls := "ToldRows", name := "beginsConflict", desc := "(LToldRows$Desk;I)Z" } : Jvm.MethodName) prog_1_method_27_code (5 : Nat) (Option.some Jvm.ClassFile.FieldType.boolean)) ∈ lw_G := lw_mem 376 (by decide +kernel) (by decide +kernel)
theorem g_377 : (Jvm.Cond.methodLink "ToldRowsLaw" (103 : Nat) ({ cls := "ToldRowsLaw", name := "settle", desc := "(LToldRows;II[J)I" } : Jvm.MethodName)) ∈ lw_G := lw_mem 377 (by decide +kernel) (by decide +kernel)
theorem g_378 : (Jvm.Cond.static ({ cls := "ToldRowsLaw", name := "settle", desc := "(LToldRows;II[J)I" } : Jvm.MethodName)) ∈ lw_G := lw_mem 378 (by decide +kernel) (by decide +kernel)
theorem g_379 : (Jvm.Cond.codeWith ({ cls := "ToldRowsLaw", name := "settle", desc := "(LToldRows;II[J)I" } : Jvm.MethodName) method_11_code (5 : Nat) (Option.some Jvm.ClassFile.FieldType.int) [((0 : Nat), (10 : Nat), (13 : Nat), (13 : Nat))]) ∈ lw_G := lw_mem 379 (by decide +kernel) (by decide +kernel)
theorem g_380 : (Jvm.Cond.methodLink "ToldRowsLaw" (47 : Nat) ({ cls := "ToldRows", name := "settle", desc := "(II)I" } : Jvm.MethodName)) ∈ lw_G := lw_mem 380 (by decide +kernel) (by decide +kernel)
theorem g_381 : (Jvm.Cond.instanceMethod ({ cls := "ToldRows", name := "settle", desc := "(II)I" } : Jvm.MethodName)) ∈ lw_G := lw_mem 381 (by decide +kernel) (by decide +kernel)
theorem g_382 : (Jvm.Cond.selects "ToldRows" ({ cls := "ToldRows", name := "settle", desc := "(II)I" } : Jvm.MethodName) ({ cls := "ToldRows", name := "settle", desc := "(II)I" } : Jvm.MethodName)) ∈ lw_G := lw_mem 382 (by decide +kernel) (by decide +kernel)
theorem g_383 : (Jvm.Cond.code ({ cls := "ToldRows", name := "settle", desc := "(II)I" } : Jvm.MethodName) prog_1_method_10_code (4 : Nat) (Option.some Jvm.ClassFile.FieldType.int)) ∈ lw_G := lw_mem 383 (by decide +kernel) (by decide +kernel)
theorem g_384 : (Jvm.Cond.methodLink "ToldRows" (136 : Nat) ({ cls := "ToldRows", name := "needName", desc := "(I)V" } : Jvm.MethodName)) ∈ lw_G := lw_mem 384 (by decide +kernel) (by decide +kernel)
theorem g_385 : (Jvm.Cond.static ({ cls := "ToldRows", name := "needName", desc := "(I)V" } : Jvm.MethodName)) ∈ lw_G := lw_mem 385 (by decide +kernel) (by decide +kernel)
theorem g_386 : (Jvm.Cond.code ({ cls := "ToldRows", name := "needName", desc := "(I)V" } : Jvm.MethodName) prog_1_method_20_code (1 : Nat) (Option.none : Option Jvm.ClassFile.FieldType)) ∈ lw_G := lw_mem 386 (by decide +kernel) (by decide +kernel)
theorem g_388 : (Jvm.Cond.methodLink "ToldRows" (141 : Nat) ({ cls := "ToldRows$Tellings", name := "findKth", desc := "(II)I" } : Jvm.MethodName)) ∈ lw_G := lw_mem 388 (by decide +kernel) (by decide +kernel)
theorem g_389 : (Jvm.Cond.instanceMethod ({ cls := "ToldRows$Tellings", name := "findKth", desc := "(II)I" } : Jvm.MethodName)) ∈ lw_G := lw_mem 389 (by decide +kernel) (by decide +kernel)
theorem g_390 : (Jvm.Cond.selects "ToldRows$Tellings" ({ cls := "ToldRows$Tellings", name := "findKth", desc := "(II)I" } : Jvm.MethodName) ({ cls := "ToldRows$Tellings", name := "findKth", desc := "(II)I" } : Jvm.MethodName)) ∈ lw_G := lw_mem 390 (by decide +kernel) (by decide +kernel)
theorem g_391 : (Jvm.Cond.code ({ cls := "ToldRows$Tellings", name := "findKth", desc := "(II)I" } : Jvm.MethodName) prog_4_method_3_code (5 : Nat) (Option.some Jvm.ClassFile.FieldType.int)) ∈ lw_G := lw_mem 391 (by decide +kernel) (by decide +kernel)
theorem g_393 : (Jvm.Cond.methodLink "ToldRows" (147 : Nat) ({ cls := "ToldRows$Tellings", name := "settleOn", desc := "(I)V" } : Jvm.MethodName)) ∈ lw_G := lw_mem 393 (by decide +kernel) (by decide +kernel)
theorem g_394 : (Jvm.Cond.instanceMethod ({ cls := "ToldRows$Tellings", name := "settleOn", desc := "(I)V" } : Jvm.MethodName)) ∈ lw_G := lw_mem 394 (by decide +kernel) (by decide +kernel)
theorem g_395 : (Jvm.Cond.selects "ToldRows$Tellings" ({ cls := "ToldRows$Tellings", name := "settleOn", desc := "(I)V" } : Jvm.MethodName) ({ cls := "ToldRows$Tellings", name := "settleOn", desc := "(I)V" } : Jvm.MethodName)) ∈ lw_G := lw_mem 395 (by decide +kernel) (by decide +kernel)
theorem g_396 : (Jvm.Cond.code ({ cls := "ToldRows$Tellings", name := "settleOn", desc := "(I)V" } : Jvm.MethodName) prog_4_method_5_code (3 : Nat) (Option.none : Option Jvm.ClassFile.FieldType)) ∈ lw_G := lw_mem 396 (by decide +kernel) (by decide +kernel)
theorem g_397 : (Jvm.Cond.methodLink "ToldRowsLaw" (106 : Nat) ({ cls := "ToldRowsLaw", name := "last", desc := "(LToldRows;III[J)I" } : Jvm.MethodName)) ∈ lw_G := lw_mem 397 (by decide +kernel) (by decide +kernel)
theorem g_398 : (Jvm.Cond.static ({ cls := "ToldRowsLaw", name := "last", desc := "(LToldRows;III[J)I" } : Jvm.MethodName)) ∈ lw_G := lw_mem 398 (by decide +kernel) (by decide +kernel)
theorem g_399 : (Jvm.Cond.codeWith ({ cls := "ToldRowsLaw", name := "last", desc := "(LToldRows;III[J)I" } : Jvm.MethodName) method_12_code (6 : Nat) (Option.some Jvm.ClassFile.FieldType.int) [((0 : Nat), (12 : Nat), (15 : Nat), (13 : Nat)), ((0 : Nat), (12 : Nat), (19 : Nat), (15 : Nat))]) ∈ lw_G := lw_mem 399 (by decide +kernel) (by decide +kernel)
theorem g_400 : (Jvm.Cond.methodLink "ToldRowsLaw" (50 : Nat) ({ cls := "ToldRows", name := "last", desc := "(III)I" } : Jvm.MethodName)) ∈ lw_G := lw_mem 400 (by decide +kernel) (by decide +kernel)
theorem g_401 : (Jvm.Cond.instanceMethod ({ cls := "ToldRows", name := "last", desc := "(III)I" } : Jvm.MethodName)) ∈ lw_G := lw_mem 401 (by decide +kernel) (by decide +kernel)
theorem g_402 : (Jvm.Cond.selects "ToldRows" ({ cls := "ToldRows", name := "last", desc := "(III)I" } : Jvm.MethodName) ({ cls := "ToldRows", name := "last", desc := "(III)I" } : Jvm.MethodName)) ∈ lw_G := lw_mem 402 (by decide +kernel) (by decide +kernel)
theorem g_403 : (Jvm.Cond.code ({ cls := "ToldRows", name := "last", desc := "(III)I" } : Jvm.MethodName) prog_1_method_11_code (6 : Nat) (Option.some Jvm.ClassFile.FieldType.int)) ∈ lw_G := lw_mem 403 (by decide +kernel) (by decide +kernel)
theorem g_404 : (Jvm.Cond.methodLink "ToldRows" (154 : Nat) ({ cls := "ToldRows", name := "needKey", desc := "(I)V" } : Jvm.MethodName)) ∈ lw_G := lw_mem 404 (by decide +kernel) (by decide +kernel)
theorem g_405 : (Jvm.Cond.static ({ cls := "ToldRows", name := "needKey", desc := "(I)V" } : Jvm.MethodName)) ∈ lw_G := lw_mem 405 (by decide +kernel) (by decide +kernel)
theorem g_406 : (Jvm.Cond.code ({ cls := "ToldRows", name := "needKey", desc := "(I)V" } : Jvm.MethodName) prog_1_method_17_code (1 : Nat) (Option.none : Option Jvm.ClassFile.FieldType)) ∈ lw_G := lw_mem 406 (by decide +kernel) (by decide +kernel)
theorem g_409 : (Jvm.Cond.methodLink "ToldRows" (159 : Nat) ({ cls := "ToldRows", name := "findLast", desc := "(LToldRows$Desk;II)I" } : Jvm.MethodName)) ∈ lw_G := lw_mem 409 (by decide +kernel) (by decide +kernel)
theorem g_411 : (Jvm.Cond.instanceMethod ({ cls := "ToldRows", name := "findLast", desc := "(LToldRows$Desk;II)I" } : Jvm.MethodName)) ∈ lw_G := lw_mem 411 (by decide +kernel) (by decide +kernel)
theorem g_412 : (Jvm.Cond.code ({ cls := "ToldRows", name := "findLast", desc := "(LToldRows$Desk;II)I" } : Jvm.MethodName) prog_1_method_29_code (6 : Nat) (Option.some Jvm.ClassFile.FieldType.int)) ∈ lw_G := lw_mem 412 (by decide +kernel) (by decide +kernel)
theorem g_413 : (Jvm.Cond.methodLink "ToldRows" (218 : Nat) ({ cls := "ToldRows$Tellings", name := "key", desc := "(I)I" } : Jvm.MethodName)) ∈ lw_G := lw_mem 413 (by decide +kernel) (by decide +kernel)
theorem g_414 : (Jvm.Cond.instanceMethod ({ cls := "ToldRows$Tellings", name := "key", desc := "(I)I" } : Jvm.MethodName)) ∈ lw_G := lw_mem 414 (by decide +kernel) (by decide +kernel)
theorem g_415 : (Jvm.Cond.selects "ToldRows$Tellings" ({ cls := "ToldRows$Tellings", name := "key", desc := "(I)I" } : Jvm.MethodName) ({ cls := "ToldRows$Tellings", name := "key", desc := "(I)I" } : Jvm.MethodName)) ∈ lw_G := lw_mem 415 (by decide +kernel) (by decide +kernel)
theorem g_416 : (Jvm.Cond.code ({ cls := "ToldRows$Tellings", name := "key", desc := "(I)I" } : Jvm.MethodName) prog_4_method_10_code (2 : Nat) (Option.some Jvm.ClassFile.FieldType.int)) ∈ lw_G := lw_mem 416 (by decide +kernel) (by decide +kernel)
theorem g_418 : (Jvm.Cond.static ({ cls := "ToldRows", name := "keyIn", desc := "(I)I" } : Jvm.MethodName)) ∈ lw_G := lw_mem 418 (by decide +kernel) (by decide +kernel)
theorem g_419 : (Jvm.Cond.code ({ cls := "ToldRows", name := "keyIn", desc := "(I)I" } : Jvm.MethodName) prog_1_method_23_code (1 : Nat) (Option.some Jvm.ClassFile.FieldType.int)) ∈ lw_G := lw_mem 419 (by decide +kernel) (by decide +kernel)
theorem g_420 : (Jvm.Cond.methodLink "ToldRows" (215 : Nat) ({ cls := "ToldRows$Desk", name := "hadSeen", desc := "(II)Z" } : Jvm.MethodName)) ∈ lw_G := lw_mem 420 (by decide +kernel) (by decide +kernel)
theorem g_421 : (Jvm.Cond.instanceMethod ({ cls := "ToldRows$Desk", name := "hadSeen", desc := "(II)Z" } : Jvm.MethodName)) ∈ lw_G := lw_mem 421 (by decide +kernel) (by decide +kernel)
theorem g_422 : (Jvm.Cond.selects "ToldRows$Desk" ({ cls := "ToldRows$Desk", name := "hadSeen", desc := "(II)Z" } : Jvm.MethodName) ({ cls := "ToldRows$Desk", name := "hadSeen", desc := "(II)Z" } : Jvm.MethodName)) ∈ lw_G := lw_mem 422 (by decide +kernel) (by decide +kernel)
theorem g_423 : (Jvm.Cond.code ({ cls := "ToldRows$Desk", name := "hadSeen", desc := "(II)Z" } : Jvm.MethodName) prog_2_method_4_code (3 : Nat) (Option.some Jvm.ClassFile.FieldType.boolean)) ∈ lw_G := lw_mem 423 (by decide +kernel) (by decide +kernel)
theorem g_424 : (Jvm.Cond.methodLink "ToldRows" (221 : Nat) ({ cls := "ToldRows", name := "isLater", desc := "(II)Z" } : Jvm.MethodName)) ∈ lw_G := lw_mem 424 (by decide +kernel) (by decide +kernel)
theorem g_426 : (Jvm.Cond.instanceMethod ({ cls := "ToldRows", name := "isLater", desc := "(II)Z" } : Jvm.MethodName)) ∈ lw_G := lw_mem 426 (by decide +kernel) (by decide +kernel)
theorem g_427 : (Jvm.Cond.code ({ cls := "ToldRows", name := "isLater", desc := "(II)Z" } : Jvm.MethodName) prog_1_method_30_code (5 : Nat) (Option.some Jvm.ClassFile.FieldType.boolean)) ∈ lw_G := lw_mem 427 (by decide +kernel) (by decide +kernel)
theorem g_428 : (Jvm.Cond.methodLink "ToldRows" (165 : Nat) ({ cls := "ToldRows", name := "realTimeOf", desc := "(I)I" } : Jvm.MethodName)) ∈ lw_G := lw_mem 428 (by decide +kernel) (by decide +kernel)
theorem g_430 : (Jvm.Cond.instanceMethod ({ cls := "ToldRows", name := "realTimeOf", desc := "(I)I" } : Jvm.MethodName)) ∈ lw_G := lw_mem 430 (by decide +kernel) (by decide +kernel)
theorem g_431 : (Jvm.Cond.code ({ cls := "ToldRows", name := "realTimeOf", desc := "(I)I" } : Jvm.MethodName) prog_1_method_31_code (3 : Nat) (Option.some Jvm.ClassFile.FieldType.int)) ∈ lw_G := lw_mem 431 (by decide +kernel) (by decide +kernel)
theorem g_432 : (Jvm.Cond.methodLink "ToldRows" (168 : Nat) ({ cls := "ToldRows$Tellings", name := "teller", desc := "(I)I" } : Jvm.MethodName)) ∈ lw_G := lw_mem 432 (by decide +kernel) (by decide +kernel)
theorem g_433 : (Jvm.Cond.instanceMethod ({ cls := "ToldRows$Tellings", name := "teller", desc := "(I)I" } : Jvm.MethodName)) ∈ lw_G := lw_mem 433 (by decide +kernel) (by decide +kernel)
theorem g_434 : (Jvm.Cond.selects "ToldRows$Tellings" ({ cls := "ToldRows$Tellings", name := "teller", desc := "(I)I" } : Jvm.MethodName) ({ cls := "ToldRows$Tellings", name := "teller", desc := "(I)I" } : Jvm.MethodName)) ∈ lw_G := lw_mem 434 (by decide +kernel) (by decide +kernel)
theorem g_435 : (Jvm.Cond.code ({ cls := "ToldRows$Tellings", name := "teller", desc := "(I)I" } : Jvm.MethodName) prog_4_method_7_code (2 : Nat) (Option.some Jvm.ClassFile.FieldType.int)) ∈ lw_G := lw_mem 435 (by decide +kernel) (by decide +kernel)
theorem g_436 : (Jvm.Cond.methodLink "ToldRows" (228 : Nat) ({ cls := "ToldRows$Tellings", name := "rank", desc := "(I)I" } : Jvm.MethodName)) ∈ lw_G := lw_mem 436 (by decide +kernel) (by decide +kernel)
theorem g_437 : (Jvm.Cond.instanceMethod ({ cls := "ToldRows$Tellings", name := "rank", desc := "(I)I" } : Jvm.MethodName)) ∈ lw_G := lw_mem 437 (by decide +kernel) (by decide +kernel)
theorem g_438 : (Jvm.Cond.selects "ToldRows$Tellings" ({ cls := "ToldRows$Tellings", name := "rank", desc := "(I)I" } : Jvm.MethodName) ({ cls := "ToldRows$Tellings", name := "rank", desc := "(I)I" } : Jvm.MethodName)) ∈ lw_G := lw_mem 438 (by decide +kernel) (by decide +kernel)
theorem g_439 : (Jvm.Cond.code ({ cls := "ToldRows$Tellings", name := "rank", desc := "(I)I" } : Jvm.MethodName) prog_4_method_11_code (2 : Nat) (Option.some Jvm.ClassFile.FieldType.int)) ∈ lw_G := lw_mem 439 (by decide +kernel) (by decide +kernel)
theorem g_440 : (Jvm.Cond.methodLink "ToldRows$Tellings" (37 : Nat) ({ cls := "ToldRows$Tellings", name := "life", desc := "(I)I" } : Jvm.MethodName)) ∈ lw_G := lw_mem 440 (by decide +kernel) (by decide +kernel)
theorem g_441 : (Jvm.Cond.instanceMethod ({ cls := "ToldRows$Tellings", name := "life", desc := "(I)I" } : Jvm.MethodName)) ∈ lw_G := lw_mem 441 (by decide +kernel) (by decide +kernel)
theorem g_442 : (Jvm.Cond.selects "ToldRows$Tellings" ({ cls := "ToldRows$Tellings", name := "life", desc := "(I)I" } : Jvm.MethodName) ({ cls := "ToldRows$Tellings", name := "life", desc := "(I)I" } : Jvm.MethodName)) ∈ lw_G := lw_mem 442 (by decide +kernel) (by decide +kernel)
theorem g_443 : (Jvm.Cond.code ({ cls := "ToldRows$Tellings", name := "life", desc := "(I)I" } : Jvm.MethodName) prog_4_method_8_code (2 : Nat) (Option.some Jvm.ClassFile.FieldType.int)) ∈ lw_G := lw_mem 443 (by decide +kernel) (by decide +kernel)
theorem g_445 : (Jvm.Cond.methodLink "ToldRows$Tellings" (40 : Nat) ({ cls := "ToldRows$Tellings", name := "teller", desc := "(I)I" } : Jvm.MethodName)) ∈ lw_G := lw_mem 445 (by decide +kernel) (by decide +kernel)
theorem g_446 : (Jvm.Cond.methodLink "ToldRows$Tellings" (43 : Nat) ({ cls := "ToldRows$Tellings", name := "number", desc := "(I)I" } : Jvm.MethodName)) ∈ lw_G := lw_mem 446 (by decide +kernel) (by decide +kernel)
theorem g_447 : (Jvm.Cond.instanceMethod ({ cls := "ToldRows$Tellings", name := "number", desc := "(I)I" } : Jvm.MethodName)) ∈ lw_G := lw_mem 447 (by decide +kernel) (by decide +kernel)
theorem g_448 : (Jvm.Cond.selects "ToldRows$Tellings" ({ cls := "ToldRows$Tellings", name := "number", desc := "(I)I" } : Jvm.MethodName) ({ cls := "ToldRows$Tellings", name := "number", desc := "(I)I" } : Jvm.MethodName)) ∈ lw_G := lw_mem 448 (by decide +kernel) (by decide +kernel)
theorem g_449 : (Jvm.Cond.code ({ cls := "ToldRows$Tellings", name := "number", desc := "(I)I" } : Jvm.MethodName) prog_4_method_9_code (2 : Nat) (Option.some Jvm.ClassFile.FieldType.int)) ∈ lw_G := lw_mem 449 (by decide +kernel) (by decide +kernel)
theorem g_450 : (Jvm.Cond.methodLink "ToldRows" (224 : Nat) ({ cls := "ToldRows", name := "countsBy", desc := "(LToldRows$Desk;II)Z" } : Jvm.MethodName)) ∈ lw_G := lw_mem 450 (by decide +kernel) (by decide +kernel)
theorem g_452 : (Jvm.Cond.instanceMethod ({ cls := "ToldRows", name := "countsBy", desc := "(LToldRows$Desk;II)Z" } : Jvm.MethodName)) ∈ lw_G := lw_mem 452 (by decide +kernel) (by decide +kernel)
theorem g_453 : (Jvm.Cond.code ({ cls := "ToldRows", name := "countsBy", desc := "(LToldRows$Desk;II)Z" } : Jvm.MethodName) prog_1_method_28_code (5 : Nat) (Option.some Jvm.ClassFile.FieldType.boolean)) ∈ lw_G := lw_mem 453 (by decide +kernel) (by decide +kernel)
theorem g_455 : (Jvm.Cond.methodLink "ToldRows" (171 : Nat) ({ cls := "ToldRows$Tellings", name := "number", desc := "(I)I" } : Jvm.MethodName)) ∈ lw_G := lw_mem 455 (by decide +kernel) (by decide +kernel)
theorem g_456 : (Jvm.Cond.methodLink "ToldRows" (174 : Nat) ({ cls := "ToldRows$Tellings", name := "life", desc := "(I)I" } : Jvm.MethodName)) ∈ lw_G := lw_mem 456 (by decide +kernel) (by decide +kernel)
theorem g_457 : (Jvm.Cond.methodLink "ToldRowsLaw" (109 : Nat) ({ cls := "ToldRowsLaw", name := "known", desc := "(LToldRows;III[J)I" } : Jvm.MethodName)) ∈ lw_G := lw_mem 457 (by decide +kernel) (by decide +kernel)
theorem g_458 : (Jvm.Cond.static ({ cls := "ToldRowsLaw", name := "known", desc := "(LToldRows;III[J)I" } : Jvm.MethodName)) ∈ lw_G := lw_mem 458 (by decide +kernel) (by decide +kernel)
theorem g_459 : (Jvm.Cond.codeWith ({ cls := "ToldRowsLaw", name := "known", desc := "(LToldRows;III[J)I" } : Jvm.MethodName) method_13_code (6 : Nat) (Option.some Jvm.ClassFile.FieldType.int) [((0 : Nat), (12 : Nat), (15 : Nat), (13 : Nat)), ((0 : Nat), (12 : Nat), (19 : Nat), (15 : Nat)), ((0 : Nat), (12 : Nat), (23 : Nat), (17 : Nat))]) ∈ lw_G := lw_mem 459 (by decide +kernel) (by decide +kernel)
theorem g_460 : (Jvm.Cond.methodLink "ToldRowsLaw" (53 : Nat) ({ cls := "ToldRows", name := "known", desc := "(III)I" } : Jvm.MethodName)) ∈ lw_G := lw_mem 460 (by decide +kernel) (by decide +kernel)
theorem g_461 : (Jvm.Cond.instanceMethod ({ cls := "ToldRows", name := "known", desc := "(III)I" } : Jvm.MethodName)) ∈ lw_G := lw_mem 461 (by decide +kernel) (by decide +kernel)
theorem g_462 : (Jvm.Cond.selects "ToldRows" ({ cls := "ToldRows", name := "known", desc := "(III)I" } : Jvm.MethodName) ({ cls := "ToldRows", name := "known", desc := "(III)I" } : Jvm.MethodName)) ∈ lw_G := lw_mem 462 (by decide +kernel) (by decide +kernel)
theorem g_463 : (Jvm.Cond.code ({ cls := "ToldRows", name := "known", desc := "(III)I" } : Jvm.MethodName) prog_1_method_12_code (6 : Nat) (Option.some Jvm.ClassFile.FieldType.int)) ∈ lw_G := lw_mem 463 (by decide +kernel) (by decide +kernel)
theorem g_466 : (Jvm.Cond.methodLink "ToldRowsLaw" (112 : Nat) ({ cls := "ToldRowsLaw", name := "many", desc := "(LToldRows;II[J)I" } : Jvm.MethodName)) ∈ lw_G := lw_mem 466 (by decide +kernel) (by decide +kernel)
theorem g_467 : (Jvm.Cond.static ({ cls := "ToldRowsLaw", name := "many", desc := "(LToldRows;II[J)I" } : Jvm.MethodName)) ∈ lw_G := lw_mem 467 (by decide +kernel) (by decide +kernel)
theorem g_468 : (Jvm.Cond.codeWith ({ cls := "ToldRowsLaw", name := "many", desc := "(LToldRows;II[J)I" } : Jvm.MethodName) method_14_code (5 : Nat) (Option.some Jvm.ClassFile.FieldType.int) [((0 : Nat), (10 : Nat), (13 : Nat), (13 : Nat))]) ∈ lw_G := lw_mem 468 (by decide +kernel) (by decide +kernel)
theorem g_469 : (Jvm.Cond.methodLink "ToldRowsLaw" (56 : Nat) ({ cls := "ToldRows", name := "many", desc := "(II)I" } : Jvm.MethodName)) ∈ lw_G := lw_mem 469 (by decide +kernel) (by decide +kernel)
theorem g_470 : (Jvm.Cond.instanceMethod ({ cls := "ToldRows", name := "many", desc := "(II)I" } : Jvm.MethodName)) ∈ lw_G := lw_mem 470 (by decide +kernel) (by decide +kernel)
theorem g_471 : (Jvm.Cond.selects "ToldRows" ({ cls := "ToldRows", name := "many", desc := "(II)I" } : Jvm.MethodName) ({ cls := "ToldRows", name := "many", desc := "(II)I" } : Jvm.MethodName)) ∈ lw_G := lw_mem 471 (by decide +kernel) (by decide +kernel)
theorem g_472 : (Jvm.Cond.code ({ cls := "ToldRows", name := "many", desc := "(II)I" } : Jvm.MethodName) prog_1_method_13_code (4 : Nat) (Option.some Jvm.ClassFile.FieldType.int)) ∈ lw_G := lw_mem 472 (by decide +kernel) (by decide +kernel)
theorem g_473 : (Jvm.Cond.methodLink "ToldRowsLaw" (115 : Nat) ({ cls := "ToldRowsLaw", name := "gap", desc := "(LToldRows;III[J)I" } : Jvm.MethodName)) ∈ lw_G := lw_mem 473 (by decide +kernel) (by decide +kernel)
theorem g_474 : (Jvm.Cond.static ({ cls := "ToldRowsLaw", name := "gap", desc := "(LToldRows;III[J)I" } : Jvm.MethodName)) ∈ lw_G := lw_mem 474 (by decide +kernel) (by decide +kernel)
theorem g_475 : (Jvm.Cond.codeWith ({ cls := "ToldRowsLaw", name := "gap", desc := "(LToldRows;III[J)I" } : Jvm.MethodName) method_15_code (6 : Nat) (Option.some Jvm.ClassFile.FieldType.int) [((0 : Nat), (12 : Nat), (15 : Nat), (13 : Nat))]) ∈ lw_G := lw_mem 475 (by decide +kernel) (by decide +kernel)
theorem g_476 : (Jvm.Cond.methodLink "ToldRowsLaw" (59 : Nat) ({ cls := "ToldRows", name := "gap", desc := "(III)I" } : Jvm.MethodName)) ∈ lw_G := lw_mem 476 (by decide +kernel) (by decide +kernel)
theorem g_477 : (Jvm.Cond.instanceMethod ({ cls := "ToldRows", name := "gap", desc := "(III)I" } : Jvm.MethodName)) ∈ lw_G := lw_mem 477 (by decide +kernel) (by decide +kernel)
theorem g_478 : (Jvm.Cond.selects "ToldRows" ({ cls := "ToldRows", name := "gap", desc := "(III)I" } : Jvm.MethodName) ({ cls := "ToldRows", name := "gap", desc := "(III)I" } : Jvm.MethodName)) ∈ lw_G := lw_mem 478 (by decide +kernel) (by decide +kernel)
theorem g_479 : (Jvm.Cond.code ({ cls := "ToldRows", name := "gap", desc := "(III)I" } : Jvm.MethodName) prog_1_method_14_code (8 : Nat) (Option.some Jvm.ClassFile.FieldType.int)) ∈ lw_G := lw_mem 479 (by decide +kernel) (by decide +kernel)
theorem g_480 : (Jvm.Cond.methodLink "ToldRows" (186 : Nat) ({ cls := "ToldRows", name := "hear", desc := "(LToldRows$Desk;I)I" } : Jvm.MethodName)) ∈ lw_G := lw_mem 480 (by decide +kernel) (by decide +kernel)
theorem g_482 : (Jvm.Cond.instanceMethod ({ cls := "ToldRows", name := "hear", desc := "(LToldRows$Desk;I)I" } : Jvm.MethodName)) ∈ lw_G := lw_mem 482 (by decide +kernel) (by decide +kernel)
theorem g_483 : (Jvm.Cond.code ({ cls := "ToldRows", name := "hear", desc := "(LToldRows$Desk;I)I" } : Jvm.MethodName) prog_1_method_32_code (7 : Nat) (Option.some Jvm.ClassFile.FieldType.int)) ∈ lw_G := lw_mem 483 (by decide +kernel) (by decide +kernel)
theorem g_484 : (Jvm.Cond.methodLink "ToldRows" (237 : Nat) ({ cls := "java/lang/Math", name := "max", desc := "(II)I" } : Jvm.MethodName)) ∈ lw_G := lw_mem 484 (by decide +kernel) (by decide +kernel)
theorem g_485 : (Jvm.Cond.static ({ cls := "java/lang/Math", name := "max", desc := "(II)I" } : Jvm.MethodName)) ∈ lw_G := lw_mem 485 (by decide +kernel) (by decide +kernel)
theorem g_486 : (Jvm.Cond.code ({ cls := "java/lang/Math", name := "max", desc := "(II)I" } : Jvm.MethodName) prog_11_method_65_code (2 : Nat) (Option.some Jvm.ClassFile.FieldType.int)) ∈ lw_G := lw_mem 486 (by decide +kernel) (by decide +kernel)
theorem g_487 : (Jvm.Cond.classLink "ToldRowsLaw" (63 : Nat) "ToldRowsModel") ∈ lw_G := lw_mem 487 (by decide +kernel) (by decide +kernel)
theorem g_488 : (Jvm.Cond.instantiable "ToldRowsModel" (16 : Nat)) ∈ lw_G := lw_mem 488 (by decide +kernel) (by decide +kernel)
theorem g_489 : (Jvm.Cond.methodLink "ToldRowsLaw" (65 : Nat) ({ cls := "ToldRowsModel", name := "<init>", desc := "()V" } : Jvm.MethodName)) ∈ lw_G := lw_mem 489 (by decide +kernel) (by decide +kernel)
theorem g_490 : (Jvm.Cond.instanceMethod ({ cls := "ToldRowsModel", name := "<init>", desc := "()V" } : Jvm.MethodName)) ∈ lw_G := lw_mem 490 (by decide +kernel) (by decide +kernel)
theorem g_491 : (Jvm.Cond.code ({ cls := "ToldRowsModel", name := "<init>", desc := "()V" } : Jvm.MethodName) prog_6_method_1_code (1 : Nat) (Option.none : Option Jvm.ClassFile.FieldType)) ∈ lw_G := lw_mem 491 (by decide +kernel) (by decide +kernel)
theorem g_492 : (Jvm.Cond.methodLink "ToldRowsModel" (1 : Nat) ({ cls := "java/lang/Object", name := "<init>", desc := "()V" } : Jvm.MethodName)) ∈ lw_G := lw_mem 492 (by decide +kernel) (by decide +kernel)
theorem g_493 : (Jvm.Cond.fieldLink "ToldRowsModel" (53 : Nat) "ToldRowsModel" "thrown" "I") ∈ lw_G := lw_mem 493 (by decide +kernel) (by decide +kernel)
theorem g_494 : (Jvm.Cond.fieldLink "ToldRowsModel" (7 : Nat) "ToldRowsModel" "life" "[I") ∈ lw_G := lw_mem 494 (by decide +kernel) (by decide +kernel)
theorem g_495 : (Jvm.Cond.fieldLink "ToldRowsModel" (13 : Nat) "ToldRowsModel" "marks" "[I") ∈ lw_G := lw_mem 495 (by decide +kernel) (by decide +kernel)
theorem g_496 : (Jvm.Cond.fieldLink "ToldRowsModel" (16 : Nat) "ToldRowsModel" "own" "[I") ∈ lw_G := lw_mem 496 (by decide +kernel) (by decide +kernel)
theorem g_497 : (Jvm.Cond.fieldLink "ToldRowsModel" (19 : Nat) "ToldRowsModel" "real" "[I") ∈ lw_G := lw_mem 497 (by decide +kernel) (by decide +kernel)
theorem g_498 : (Jvm.Cond.fieldLink "ToldRowsModel" (74 : Nat) "ToldRowsModel" "kept" "I") ∈ lw_G := lw_mem 498 (by decide +kernel) (by decide +kernel)
theorem g_499 : (Jvm.Cond.fieldLink "ToldRowsModel" (22 : Nat) "ToldRowsModel" "teller" "[I") ∈ lw_G := lw_mem 499 (by decide +kernel) (by decide +kernel)
theorem g_500 : (Jvm.Cond.fieldLink "ToldRowsModel" (25 : Nat) "ToldRowsModel" "lived" "[I") ∈ lw_G := lw_mem 500 (by decide +kernel) (by decide +kernel)
theorem g_501 : (Jvm.Cond.fieldLink "ToldRowsModel" (28 : Nat) "ToldRowsModel" "number" "[I") ∈ lw_G := lw_mem 501 (by decide +kernel) (by decide +kernel)
theorem g_502 : (Jvm.Cond.fieldLink "ToldRowsModel" (31 : Nat) "ToldRowsModel" "key" "[I") ∈ lw_G := lw_mem 502 (by decide +kernel) (by decide +kernel)
theorem g_503 : (Jvm.Cond.fieldLink "ToldRowsModel" (34 : Nat) "ToldRowsModel" "value" "[I") ∈ lw_G := lw_mem 503 (by decide +kernel) (by decide +kernel)
theorem g_504 : (Jvm.Cond.fieldLink "ToldRowsModel" (37 : Nat) "ToldRowsModel" "time" "[I") ∈ lw_G := lw_mem 504 (by decide +kernel) (by decide +kernel)
theorem g_505 : (Jvm.Cond.fieldLink "ToldRowsModel" (40 : Nat) "ToldRowsModel" "settled" "[Z") ∈ lw_G := lw_mem 505 (by decide +kernel) (by decide +kernel)
theorem g_506 : (Jvm.Cond.fieldLink "ToldRowsModel" (44 : Nat) "ToldRowsModel" "seen" "[I") ∈ lw_G := lw_mem 506 (by decide +kernel) (by decide +kernel)
theorem g_507 : (Jvm.Cond.fieldLink "ToldRowsModel" (47 : Nat) "ToldRowsModel" "moment" "[I") ∈ lw_G := lw_mem 507 (by decide +kernel) (by decide +kernel)
theorem g_508 : (Jvm.Cond.fieldLink "ToldRowsModel" (50 : Nat) "ToldRowsModel" "open" "[Z") ∈ lw_G := lw_mem 508 (by decide +kernel) (by decide +kernel)
theorem g_509 : (Jvm.Cond.lays "ToldRowsModel" "ToldRowsModel" "thrown" "I") ∈ lw_G := lw_mem 509 (by decide +kernel) (by decide +kernel)
theorem g_511 : (Jvm.Cond.laysFinal "ToldRowsModel" "ToldRowsModel" "life" "[I") ∈ lw_G := lw_mem 511 (by decide +kernel) (by decide +kernel)
theorem g_513 : (Jvm.Cond.laysFinal "ToldRowsModel" "ToldRowsModel" "marks" "[I") ∈ lw_G := lw_mem 513 (by decide +kernel) (by decide +kernel)
theorem g_515 : (Jvm.Cond.laysFinal "ToldRowsModel" "ToldRowsModel" "own" "[I") ∈ lw_G := lw_mem 515 (by decide +kernel) (by decide +kernel)
theorem g_517 : (Jvm.Cond.laysFinal "ToldRowsModel" "ToldRowsModel" "real" "[I") ∈ lw_G := lw_mem 517 (by decide +kernel) (by decide +kernel)
theorem g_519 : (Jvm.Cond.lays "ToldRowsModel" "ToldRowsModel" "kept" "I") ∈ lw_G := lw_mem 519 (by decide +kernel) (by decide +kernel)
theorem g_521 : (Jvm.Cond.laysFinal "ToldRowsModel" "ToldRowsModel" "teller" "[I") ∈ lw_G := lw_mem 521 (by decide +kernel) (by decide +kernel)
theorem g_523 : (Jvm.Cond.laysFinal "ToldRowsModel" "ToldRowsModel" "lived" "[I") ∈ lw_G := lw_mem 523 (by decide +kernel) (by decide +kernel)
theorem g_525 : (Jvm.Cond.laysFinal "ToldRowsModel" "ToldRowsModel" "number" "[I") ∈ lw_G := lw_mem 525 (by decide +kernel) (by decide +kernel)
theorem g_527 : (Jvm.Cond.laysFinal "ToldRowsModel" "ToldRowsModel" "key" "[I") ∈ lw_G := lw_mem 527 (by decide +kernel) (by decide +kernel)
theorem g_529 : (Jvm.Cond.laysFinal "ToldRowsModel" "ToldRowsModel" "value" "[I") ∈ lw_G := lw_mem 529 (by decide +kernel) (by decide +kernel)
theorem g_531 : (Jvm.Cond.laysFinal "ToldRowsModel" "ToldRowsModel" "time" "[I") ∈ lw_G := lw_mem 531 (by decide +kernel) (by decide +kernel)
theorem g_533 : (Jvm.Cond.laysFinal "ToldRowsModel" "ToldRowsModel" "settled" "[Z") ∈ lw_G := lw_mem 533 (by decide +kernel) (by decide +kernel)
theorem g_535 : (Jvm.Cond.laysFinal "ToldRowsModel" "ToldRowsModel" "seen" "[I") ∈ lw_G := lw_mem 535 (by decide +kernel) (by decide +kernel)
theorem g_537 : (Jvm.Cond.laysFinal "ToldRowsModel" "ToldRowsModel" "moment" "[I") ∈ lw_G := lw_mem 537 (by decide +kernel) (by decide +kernel)
theorem g_539 : (Jvm.Cond.laysFinal "ToldRowsModel" "ToldRowsModel" "open" "[Z") ∈ lw_G := lw_mem 539 (by decide +kernel) (by decide +kernel)
theorem g_542 : (Jvm.Cond.methodLink "ToldRowsLaw" (72 : Nat) ({ cls := "ToldRowsModel", name := "thrown", desc := "()I" } : Jvm.MethodName)) ∈ lw_G := lw_mem 542 (by decide +kernel) (by decide +kernel)
theorem g_543 : (Jvm.Cond.instanceMethod ({ cls := "ToldRowsModel", name := "thrown", desc := "()I" } : Jvm.MethodName)) ∈ lw_G := lw_mem 543 (by decide +kernel) (by decide +kernel)
theorem g_544 : (Jvm.Cond.selects "ToldRowsModel" ({ cls := "ToldRowsModel", name := "thrown", desc := "()I" } : Jvm.MethodName) ({ cls := "ToldRowsModel", name := "thrown", desc := "()I" } : Jvm.MethodName)) ∈ lw_G := lw_mem 544 (by decide +kernel) (by decide +kernel)
theorem g_545 : (Jvm.Cond.code ({ cls := "ToldRowsModel", name := "thrown", desc := "()I" } : Jvm.MethodName) prog_6_method_2_code (1 : Nat) (Option.some Jvm.ClassFile.FieldType.int)) ∈ lw_G := lw_mem 545 (by decide +kernel) (by decide +kernel)
theorem g_546 : (Jvm.Cond.methodLink "ToldRowsLaw" (71 : Nat) ({ cls := "ToldRowsModel", name := "mark", desc := "(III)I" } : Jvm.MethodName)) ∈ lw_G := lw_mem 546 (by decide +kernel) (by decide +kernel)
theorem g_547 : (Jvm.Cond.instanceMethod ({ cls := "ToldRowsModel", name := "mark", desc := "(III)I" } : Jvm.MethodName)) ∈ lw_G := lw_mem 547 (by decide +kernel) (by decide +kernel)
theorem g_548 : (Jvm.Cond.selects "ToldRowsModel" ({ cls := "ToldRowsModel", name := "mark", desc := "(III)I" } : Jvm.MethodName) ({ cls := "ToldRowsModel", name := "mark", desc := "(III)I" } : Jvm.MethodName)) ∈ lw_G := lw_mem 548 (by decide +kernel) (by decide +kernel)
theorem g_549 : (Jvm.Cond.code ({ cls := "ToldRowsModel", name := "mark", desc := "(III)I" } : Jvm.MethodName) prog_6_method_7_code (8 : Nat) (Option.some Jvm.ClassFile.FieldType.int)) ∈ lw_G := lw_mem 549 (by decide +kernel) (by decide +kernel)
theorem g_550 : (Jvm.Cond.methodLink "ToldRowsModel" (61 : Nat) ({ cls := "ToldRowsModel", name := "isTeller", desc := "(I)Z" } : Jvm.MethodName)) ∈ lw_G := lw_mem 550 (by decide +kernel) (by decide +kernel)
theorem g_551 : (Jvm.Cond.static ({ cls := "ToldRowsModel", name := "isTeller", desc := "(I)Z" } : Jvm.MethodName)) ∈ lw_G := lw_mem 551 (by decide +kernel) (by decide +kernel)
theorem g_552 : (Jvm.Cond.code ({ cls := "ToldRowsModel", name := "isTeller", desc := "(I)Z" } : Jvm.MethodName) prog_6_method_6_code (1 : Nat) (Option.some Jvm.ClassFile.FieldType.boolean)) ∈ lw_G := lw_mem 552 (by decide +kernel) (by decide +kernel)
theorem g_553 : (Jvm.Cond.methodLink "ToldRowsModel" (57 : Nat) ({ cls := "ToldRowsModel", name := "in", desc := "(JII)Z" } : Jvm.MethodName)) ∈ lw_G := lw_mem 553 (by decide +kernel) (by decide +kernel)
theorem g_554 : (Jvm.Cond.static ({ cls := "ToldRowsModel", name := "in", desc := "(JII)Z" } : Jvm.MethodName)) ∈ lw_G := lw_mem 554 (by decide +kernel) (by decide +kernel)
theorem g_555 : (Jvm.Cond.code ({ cls := "ToldRowsModel", name := "in", desc := "(JII)Z" } : Jvm.MethodName) prog_6_method_4_code (4 : Nat) (Option.some Jvm.ClassFile.FieldType.boolean)) ∈ lw_G := lw_mem 555 (by decide +kernel) (by decide +kernel)
theorem g_556 : (Jvm.Cond.constant "ToldRowsModel" (65 : Nat) (1000000 : Int32)) ∈ lw_G := lw_mem 556 (by decide +kernel) (by decide +kernel)
theorem g_557 : (Jvm.Cond.methodLink "ToldRowsModel" (66 : Nat) ({ cls := "ToldRowsModel", name := "throwing", desc := "(ZZZZ)Z" } : Jvm.MethodName)) ∈ lw_G := lw_mem 557 (by decide +kernel) (by decide +kernel)
theorem g_559 : (Jvm.Cond.instanceMethod ({ cls := "ToldRowsModel", name := "throwing", desc := "(ZZZZ)Z" } : Jvm.MethodName)) ∈ lw_G := lw_mem 559 (by decide +kernel) (by decide +kernel)
theorem g_560 : (Jvm.Cond.code ({ cls := "ToldRowsModel", name := "throwing", desc := "(ZZZZ)Z" } : Jvm.MethodName) prog_6_method_3_code (5 : Nat) (Option.some Jvm.ClassFile.FieldType.boolean)) ∈ lw_G := lw_mem 560 (by decide +kernel) (by decide +kernel)
theorem g_561 : (Jvm.Cond.methodLink "ToldRowsLaw" (79 : Nat) ({ cls := "ToldRowsModel", name := "real", desc := "(II)I" } : Jvm.MethodName)) ∈ lw_G := lw_mem 561 (by decide +kernel) (by decide +kernel)
theorem g_562 : (Jvm.Cond.instanceMethod ({ cls := "ToldRowsModel", name := "real", desc := "(II)I" } : Jvm.MethodName)) ∈ lw_G := lw_mem 562 (by decide +kernel) (by decide +kernel)
theorem g_563 : (Jvm.Cond.selects "ToldRowsModel" ({ cls := "ToldRowsModel", name := "real", desc := "(II)I" } : Jvm.MethodName) ({ cls := "ToldRowsModel", name := "real", desc := "(II)I" } : Jvm.MethodName)) ∈ lw_G := lw_mem 563 (by decide +kernel) (by decide +kernel)
theorem g_564 : (Jvm.Cond.code ({ cls := "ToldRowsModel", name := "real", desc := "(II)I" } : Jvm.MethodName) prog_6_method_9_code (3 : Nat) (Option.some Jvm.ClassFile.FieldType.int)) ∈ lw_G := lw_mem 564 (by decide +kernel) (by decide +kernel)
theorem g_565 : (Jvm.Cond.methodLink "ToldRowsModel" (70 : Nat) ({ cls := "ToldRowsModel", name := "realOf", desc := "(II)I" } : Jvm.MethodName)) ∈ lw_G := lw_mem 565 (by decide +kernel) (by decide +kernel)
theorem g_567 : (Jvm.Cond.instanceMethod ({ cls := "ToldRowsModel", name := "realOf", desc := "(II)I" } : Jvm.MethodName)) ∈ lw_G := lw_mem 567 (by decide +kernel) (by decide +kernel)
theorem g_568 : (Jvm.Cond.code ({ cls := "ToldRowsModel", name := "realOf", desc := "(II)I" } : Jvm.MethodName) prog_6_method_8_code (9 : Nat) (Option.some Jvm.ClassFile.FieldType.int)) ∈ lw_G := lw_mem 568 (by decide +kernel) (by decide +kernel)
theorem g_569 : (Jvm.Cond.methodLink "ToldRowsLaw" (85 : Nat) ({ cls := "ToldRowsModel", name := "tell", desc := "(IIJI)I" } : Jvm.MethodName)) ∈ lw_G := lw_mem 569 (by decide +kernel) (by decide +kernel)
theorem g_570 : (Jvm.Cond.instanceMethod ({ cls := "ToldRowsModel", name := "tell", desc := "(IIJI)I" } : Jvm.MethodName)) ∈ lw_G := lw_mem 570 (by decide +kernel) (by decide +kernel)
theorem g_571 : (Jvm.Cond.selects "ToldRowsModel" ({ cls := "ToldRowsModel", name := "tell", desc := "(IIJI)I" } : Jvm.MethodName) ({ cls := "ToldRowsModel", name := "tell", desc := "(IIJI)I" } : Jvm.MethodName)) ∈ lw_G := lw_mem 571 (by decide +kernel) (by decide +kernel)
theorem g_572 : (Jvm.Cond.code ({ cls := "ToldRowsModel", name := "tell", desc := "(IIJI)I" } : Jvm.MethodName) prog_6_method_14_code (14 : Nat) (Option.some Jvm.ClassFile.FieldType.int)) ∈ lw_G := lw_mem 572 (by decide +kernel) (by decide +kernel)
theorem g_573 : (Jvm.Cond.methodLink "ToldRowsModel" (77 : Nat) ({ cls := "ToldRowsModel", name := "isDesk", desc := "(I)Z" } : Jvm.MethodName)) ∈ lw_G := lw_mem 573 (by decide +kernel) (by decide +kernel)
theorem g_574 : (Jvm.Cond.static ({ cls := "ToldRowsModel", name := "isDesk", desc := "(I)Z" } : Jvm.MethodName)) ∈ lw_G := lw_mem 574 (by decide +kernel) (by decide +kernel)
theorem g_575 : (Jvm.Cond.code ({ cls := "ToldRowsModel", name := "isDesk", desc := "(I)Z" } : Jvm.MethodName) prog_6_method_5_code (1 : Nat) (Option.some Jvm.ClassFile.FieldType.boolean)) ∈ lw_G := lw_mem 575 (by decide +kernel) (by decide +kernel)
theorem g_576 : (Jvm.Cond.constantLong "ToldRowsModel" (80 : Nat) (1048575 : Int64)) ∈ lw_G := lw_mem 576 (by decide +kernel) (by decide +kernel)
theorem g_577 : (Jvm.Cond.constantLong "ToldRowsModel" (82 : Nat) (7 : Int64)) ∈ lw_G := lw_mem 577 (by decide +kernel) (by decide +kernel)
theorem g_578 : (Jvm.Cond.constantLong "ToldRowsModel" (84 : Nat) (127 : Int64)) ∈ lw_G := lw_mem 578 (by decide +kernel) (by decide +kernel)
theorem g_579 : (Jvm.Cond.methodLink "ToldRowsModel" (86 : Nat) ({ cls := "ToldRowsModel", name := "find", desc := "(IIIII)I" } : Jvm.MethodName)) ∈ lw_G := lw_mem 579 (by decide +kernel) (by decide +kernel)
theorem g_581 : (Jvm.Cond.instanceMethod ({ cls := "ToldRowsModel", name := "find", desc := "(IIIII)I" } : Jvm.MethodName)) ∈ lw_G := lw_mem 581 (by decide +kernel) (by decide +kernel)
theorem g_582 : (Jvm.Cond.code ({ cls := "ToldRowsModel", name := "find", desc := "(IIIII)I" } : Jvm.MethodName) prog_6_method_13_code (8 : Nat) (Option.some Jvm.ClassFile.FieldType.int)) ∈ lw_G := lw_mem 582 (by decide +kernel) (by decide +kernel)
theorem g_583 : (Jvm.Cond.methodLink "ToldRowsModel" (90 : Nat) ({ cls := "ToldRowsModel", name := "has", desc := "(II)Z" } : Jvm.MethodName)) ∈ lw_G := lw_mem 583 (by decide +kernel) (by decide +kernel)
theorem g_585 : (Jvm.Cond.instanceMethod ({ cls := "ToldRowsModel", name := "has", desc := "(II)Z" } : Jvm.MethodName)) ∈ lw_G := lw_mem 585 (by decide +kernel) (by decide +kernel)
theorem g_586 : (Jvm.Cond.code ({ cls := "ToldRowsModel", name := "has", desc := "(II)Z" } : Jvm.MethodName) prog_6_method_12_code (3 : Nat) (Option.some Jvm.ClassFile.FieldType.boolean)) ∈ lw_G := lw_mem 586 (by decide +kernel) (by decide +kernel)
theorem g_587 : (Jvm.Cond.methodLink "ToldRowsModel" (94 : Nat) ({ cls := "ToldRowsModel", name := "areRivals", desc := "(II)Z" } : Jvm.MethodName)) ∈ lw_G := lw_mem 587 (by decide +kernel) (by decide +kernel)
theorem g_589 : (Jvm.Cond.instanceMethod ({ cls := "ToldRowsModel", name := "areRivals", desc := "(II)Z" } : Jvm.MethodName)) ∈ lw_G := lw_mem 589 (by decide +kernel) (by decide +kernel)
theorem g_590 : (Jvm.Cond.code ({ cls := "ToldRowsModel", name := "areRivals", desc := "(II)Z" } : Jvm.MethodName) prog_6_method_10_code (3 : Nat) (Option.some Jvm.ClassFile.FieldType.boolean)) ∈ lw_G := lw_mem 590 (by decide +kernel) (by decide +kernel)
theorem g_591 : (Jvm.Cond.methodLink "ToldRowsModel" (97 : Nat) ({ cls := "ToldRowsModel", name := "comes", desc := "(II)V" } : Jvm.MethodName)) ∈ lw_G := lw_mem 591 (by decide +kernel) (by decide +kernel)
theorem g_593 : (Jvm.Cond.instanceMethod ({ cls := "ToldRowsModel", name := "comes", desc := "(II)V" } : Jvm.MethodName)) ∈ lw_G := lw_mem 593 (by decide +kernel) (by decide +kernel)
theorem g_594 : (Jvm.Cond.code ({ cls := "ToldRowsModel", name := "comes", desc := "(II)V" } : Jvm.MethodName) prog_6_method_11_code (3 : Nat) (Option.none : Option Jvm.ClassFile.FieldType)) ∈ lw_G := lw_mem 594 (by decide +kernel) (by decide +kernel)
theorem g_595 : (Jvm.Cond.methodLink "ToldRowsLaw" (89 : Nat) ({ cls := "ToldRowsModel", name := "restart", desc := "(I)I" } : Jvm.MethodName)) ∈ lw_G := lw_mem 595 (by decide +kernel) (by decide +kernel)
theorem g_596 : (Jvm.Cond.instanceMethod ({ cls := "ToldRowsModel", name := "restart", desc := "(I)I" } : Jvm.MethodName)) ∈ lw_G := lw_mem 596 (by decide +kernel) (by decide +kernel)
theorem g_597 : (Jvm.Cond.selects "ToldRowsModel" ({ cls := "ToldRowsModel", name := "restart", desc := "(I)I" } : Jvm.MethodName) ({ cls := "ToldRowsModel", name := "restart", desc := "(I)I" } : Jvm.MethodName)) ∈ lw_G := lw_mem 597 (by decide +kernel) (by decide +kernel)
theorem g_598 : (Jvm.Cond.code ({ cls := "ToldRowsModel", name := "restart", desc := "(I)I" } : Jvm.MethodName) prog_6_method_15_code (3 : Nat) (Option.some Jvm.ClassFile.FieldType.int)) ∈ lw_G := lw_mem 598 (by decide +kernel) (by decide +kernel)
theorem g_599 : (Jvm.Cond.methodLink "ToldRowsLaw" (92 : Nat) ({ cls := "ToldRowsModel", name := "join", desc := "(II)I" } : Jvm.MethodName)) ∈ lw_G := lw_mem 599 (by decide +kernel) (by decide +kernel)
theorem g_600 : (Jvm.Cond.instanceMethod ({ cls := "ToldRowsModel", name := "join", desc := "(II)I" } : Jvm.MethodName)) ∈ lw_G := lw_mem 600 (by decide +kernel) (by decide +kernel)
theorem g_601 : (Jvm.Cond.selects "ToldRowsModel" ({ cls := "ToldRowsModel", name := "join", desc := "(II)I" } : Jvm.MethodName) ({ cls := "ToldRowsModel", name := "join", desc := "(II)I" } : Jvm.MethodName)) ∈ lw_G := lw_mem 601 (by decide +kernel) (by decide +kernel)
theorem g_602 : (Jvm.Cond.code ({ cls := "ToldRowsModel", name := "join", desc := "(II)I" } : Jvm.MethodName) prog_6_method_16_code (5 : Nat) (Option.some Jvm.ClassFile.FieldType.int)) ∈ lw_G := lw_mem 602 (by decide +kernel) (by decide +kernel)
theorem g_603 : (Jvm.Cond.methodLink "ToldRowsLaw" (96 : Nat) ({ cls := "ToldRowsModel", name := "batch", desc := "(IZ)I" } : Jvm.MethodName)) ∈ lw_G := lw_mem 603 (by decide +kernel) (by decide +kernel)
theorem g_604 : (Jvm.Cond.instanceMethod ({ cls := "ToldRowsModel", name := "batch", desc := "(IZ)I" } : Jvm.MethodName)) ∈ lw_G := lw_mem 604 (by decide +kernel) (by decide +kernel)
theorem g_605 : (Jvm.Cond.selects "ToldRowsModel" ({ cls := "ToldRowsModel", name := "batch", desc := "(IZ)I" } : Jvm.MethodName) ({ cls := "ToldRowsModel", name := "batch", desc := "(IZ)I" } : Jvm.MethodName)) ∈ lw_G := lw_mem 605 (by decide +kernel) (by decide +kernel)
theorem g_606 : (Jvm.Cond.code ({ cls := "ToldRowsModel", name := "batch", desc := "(IZ)I" } : Jvm.MethodName) prog_6_method_17_code (6 : Nat) (Option.some Jvm.ClassFile.FieldType.int)) ∈ lw_G := lw_mem 606 (by decide +kernel) (by decide +kernel)
theorem g_607 : (Jvm.Cond.methodLink "ToldRowsLaw" (99 : Nat) ({ cls := "ToldRowsModel", name := "same", desc := "(II)Z" } : Jvm.MethodName)) ∈ lw_G := lw_mem 607 (by decide +kernel) (by decide +kernel)
theorem g_608 : (Jvm.Cond.instanceMethod ({ cls := "ToldRowsModel", name := "same", desc := "(II)Z" } : Jvm.MethodName)) ∈ lw_G := lw_mem 608 (by decide +kernel) (by decide +kernel)
theorem g_609 : (Jvm.Cond.selects "ToldRowsModel" ({ cls := "ToldRowsModel", name := "same", desc := "(II)Z" } : Jvm.MethodName) ({ cls := "ToldRowsModel", name := "same", desc := "(II)Z" } : Jvm.MethodName)) ∈ lw_G := lw_mem 609 (by decide +kernel) (by decide +kernel)
theorem g_610 : (Jvm.Cond.code ({ cls := "ToldRowsModel", name := "same", desc := "(II)Z" } : Jvm.MethodName) prog_6_method_19_code (5 : Nat) (Option.some Jvm.ClassFile.FieldType.boolean)) ∈ lw_G := lw_mem 610 (by decide +kernel) (by decide +kernel)
theorem g_611 : (Jvm.Cond.methodLink "ToldRowsModel" (101 : Nat) ({ cls := "ToldRowsModel", name := "sees", desc := "(III)Z" } : Jvm.MethodName)) ∈ lw_G := lw_mem 611 (by decide +kernel) (by decide +kernel)
theorem g_613 : (Jvm.Cond.instanceMethod ({ cls := "ToldRowsModel", name := "sees", desc := "(III)Z" } : Jvm.MethodName)) ∈ lw_G := lw_mem 613 (by decide +kernel) (by decide +kernel)
theorem g_614 : (Jvm.Cond.code ({ cls := "ToldRowsModel", name := "sees", desc := "(III)Z" } : Jvm.MethodName) prog_6_method_18_code (4 : Nat) (Option.some Jvm.ClassFile.FieldType.boolean)) ∈ lw_G := lw_mem 614 (by decide +kernel) (by decide +kernel)
theorem g_615 : (Jvm.Cond.methodLink "ToldRowsLaw" (102 : Nat) ({ cls := "ToldRowsModel", name := "conflicts", desc := "(I)I" } : Jvm.MethodName)) ∈ lw_G := lw_mem 615 (by decide +kernel) (by decide +kernel)
theorem g_616 : (Jvm.Cond.instanceMethod ({ cls := "ToldRowsModel", name := "conflicts", desc := "(I)I" } : Jvm.MethodName)) ∈ lw_G := lw_mem 616 (by decide +kernel) (by decide +kernel)
theorem g_617 : (Jvm.Cond.selects "ToldRowsModel" ({ cls := "ToldRowsModel", name := "conflicts", desc := "(I)I" } : Jvm.MethodName) ({ cls := "ToldRowsModel", name := "conflicts", desc := "(I)I" } : Jvm.MethodName)) ∈ lw_G := lw_mem 617 (by decide +kernel) (by decide +kernel)
theorem g_618 : (Jvm.Cond.code ({ cls := "ToldRowsModel", name := "conflicts", desc := "(I)I" } : Jvm.MethodName) prog_6_method_20_code (9 : Nat) (Option.some Jvm.ClassFile.FieldType.int)) ∈ lw_G := lw_mem 618 (by decide +kernel) (by decide +kernel)
theorem g_619 : (Jvm.Cond.methodLink "ToldRowsLaw" (105 : Nat) ({ cls := "ToldRowsModel", name := "settle", desc := "(II)I" } : Jvm.MethodName)) ∈ lw_G := lw_mem 619 (by decide +kernel) (by decide +kernel)
theorem g_620 : (Jvm.Cond.instanceMethod ({ cls := "ToldRowsModel", name := "settle", desc := "(II)I" } : Jvm.MethodName)) ∈ lw_G := lw_mem 620 (by decide +kernel) (by decide +kernel)
theorem g_621 : (Jvm.Cond.selects "ToldRowsModel" ({ cls := "ToldRowsModel", name := "settle", desc := "(II)I" } : Jvm.MethodName) ({ cls := "ToldRowsModel", name := "settle", desc := "(II)I" } : Jvm.MethodName)) ∈ lw_G := lw_mem 621 (by decide +kernel) (by decide +kernel)
theorem g_622 : (Jvm.Cond.code ({ cls := "ToldRowsModel", name := "settle", desc := "(II)I" } : Jvm.MethodName) prog_6_method_21_code (9 : Nat) (Option.some Jvm.ClassFile.FieldType.int)) ∈ lw_G := lw_mem 622 (by decide +kernel) (by decide +kernel)
theorem g_623 : (Jvm.Cond.methodLink "ToldRowsLaw" (108 : Nat) ({ cls := "ToldRowsModel", name := "last", desc := "(III)I" } : Jvm.MethodName)) ∈ lw_G := lw_mem 623 (by decide +kernel) (by decide +kernel)
theorem g_624 : (Jvm.Cond.instanceMethod ({ cls := "ToldRowsModel", name := "last", desc := "(III)I" } : Jvm.MethodName)) ∈ lw_G := lw_mem 624 (by decide +kernel) (by decide +kernel)
theorem g_625 : (Jvm.Cond.selects "ToldRowsModel" ({ cls := "ToldRowsModel", name := "last", desc := "(III)I" } : Jvm.MethodName) ({ cls := "ToldRowsModel", name := "last", desc := "(III)I" } : Jvm.MethodName)) ∈ lw_G := lw_mem 625 (by decide +kernel) (by decide +kernel)
theorem g_626 : (Jvm.Cond.code ({ cls := "ToldRowsModel", name := "last", desc := "(III)I" } : Jvm.MethodName) prog_6_method_25_code (6 : Nat) (Option.some Jvm.ClassFile.FieldType.int)) ∈ lw_G := lw_mem 626 (by decide +kernel) (by decide +kernel)
theorem g_627 : (Jvm.Cond.methodLink "ToldRowsModel" (111 : Nat) ({ cls := "ToldRowsModel", name := "lastOf", desc := "(III)I" } : Jvm.MethodName)) ∈ lw_G := lw_mem 627 (by decide +kernel) (by decide +kernel)
theorem g_629 : (Jvm.Cond.instanceMethod ({ cls := "ToldRowsModel", name := "lastOf", desc := "(III)I" } : Jvm.MethodName)) ∈ lw_G := lw_mem 629 (by decide +kernel) (by decide +kernel)
theorem g_630 : (Jvm.Cond.code ({ cls := "ToldRowsModel", name := "lastOf", desc := "(III)I" } : Jvm.MethodName) prog_6_method_24_code (6 : Nat) (Option.some Jvm.ClassFile.FieldType.int)) ∈ lw_G := lw_mem 630 (by decide +kernel) (by decide +kernel)
theorem g_631 : (Jvm.Cond.methodLink "ToldRowsModel" (105 : Nat) ({ cls := "ToldRowsModel", name := "counts", desc := "(III)Z" } : Jvm.MethodName)) ∈ lw_G := lw_mem 631 (by decide +kernel) (by decide +kernel)
theorem g_633 : (Jvm.Cond.instanceMethod ({ cls := "ToldRowsModel", name := "counts", desc := "(III)Z" } : Jvm.MethodName)) ∈ lw_G := lw_mem 633 (by decide +kernel) (by decide +kernel)
theorem g_634 : (Jvm.Cond.code ({ cls := "ToldRowsModel", name := "counts", desc := "(III)Z" } : Jvm.MethodName) prog_6_method_22_code (7 : Nat) (Option.some Jvm.ClassFile.FieldType.boolean)) ∈ lw_G := lw_mem 634 (by decide +kernel) (by decide +kernel)
theorem g_635 : (Jvm.Cond.methodLink "ToldRowsModel" (108 : Nat) ({ cls := "ToldRowsModel", name := "isLater", desc := "(II)Z" } : Jvm.MethodName)) ∈ lw_G := lw_mem 635 (by decide +kernel) (by decide +kernel)
theorem g_637 : (Jvm.Cond.instanceMethod ({ cls := "ToldRowsModel", name := "isLater", desc := "(II)Z" } : Jvm.MethodName)) ∈ lw_G := lw_mem 637 (by decide +kernel) (by decide +kernel)
theorem g_638 : (Jvm.Cond.code ({ cls := "ToldRowsModel", name := "isLater", desc := "(II)Z" } : Jvm.MethodName) prog_6_method_23_code (5 : Nat) (Option.some Jvm.ClassFile.FieldType.boolean)) ∈ lw_G := lw_mem 638 (by decide +kernel) (by decide +kernel)
theorem g_639 : (Jvm.Cond.methodLink "ToldRowsLaw" (111 : Nat) ({ cls := "ToldRowsModel", name := "known", desc := "(III)I" } : Jvm.MethodName)) ∈ lw_G := lw_mem 639 (by decide +kernel) (by decide +kernel)
theorem g_640 : (Jvm.Cond.instanceMethod ({ cls := "ToldRowsModel", name := "known", desc := "(III)I" } : Jvm.MethodName)) ∈ lw_G := lw_mem 640 (by decide +kernel) (by decide +kernel)
theorem g_641 : (Jvm.Cond.selects "ToldRowsModel" ({ cls := "ToldRowsModel", name := "known", desc := "(III)I" } : Jvm.MethodName) ({ cls := "ToldRowsModel", name := "known", desc := "(III)I" } : Jvm.MethodName)) ∈ lw_G := lw_mem 641 (by decide +kernel) (by decide +kernel)
theorem g_642 : (Jvm.Cond.code ({ cls := "ToldRowsModel", name := "known", desc := "(III)I" } : Jvm.MethodName) prog_6_method_26_code (7 : Nat) (Option.some Jvm.ClassFile.FieldType.int)) ∈ lw_G := lw_mem 642 (by decide +kernel) (by decide +kernel)
theorem g_643 : (Jvm.Cond.methodLink "ToldRowsLaw" (114 : Nat) ({ cls := "ToldRowsModel", name := "many", desc := "(II)I" } : Jvm.MethodName)) ∈ lw_G := lw_mem 643 (by decide +kernel) (by decide +kernel)
theorem g_644 : (Jvm.Cond.instanceMethod ({ cls := "ToldRowsModel", name := "many", desc := "(II)I" } : Jvm.MethodName)) ∈ lw_G := lw_mem 644 (by decide +kernel) (by decide +kernel)
theorem g_645 : (Jvm.Cond.selects "ToldRowsModel" ({ cls := "ToldRowsModel", name := "many", desc := "(II)I" } : Jvm.MethodName) ({ cls := "ToldRowsModel", name := "many", desc := "(II)I" } : Jvm.MethodName)) ∈ lw_G := lw_mem 645 (by decide +kernel) (by decide +kernel)
theorem g_646 : (Jvm.Cond.code ({ cls := "ToldRowsModel", name := "many", desc := "(II)I" } : Jvm.MethodName) prog_6_method_27_code (5 : Nat) (Option.some Jvm.ClassFile.FieldType.int)) ∈ lw_G := lw_mem 646 (by decide +kernel) (by decide +kernel)
theorem g_647 : (Jvm.Cond.methodLink "ToldRowsLaw" (117 : Nat) ({ cls := "ToldRowsModel", name := "gap", desc := "(III)I" } : Jvm.MethodName)) ∈ lw_G := lw_mem 647 (by decide +kernel) (by decide +kernel)
theorem g_648 : (Jvm.Cond.instanceMethod ({ cls := "ToldRowsModel", name := "gap", desc := "(III)I" } : Jvm.MethodName)) ∈ lw_G := lw_mem 648 (by decide +kernel) (by decide +kernel)
theorem g_649 : (Jvm.Cond.selects "ToldRowsModel" ({ cls := "ToldRowsModel", name := "gap", desc := "(III)I" } : Jvm.MethodName) ({ cls := "ToldRowsModel", name := "gap", desc := "(III)I" } : Jvm.MethodName)) ∈ lw_G := lw_mem 649 (by decide +kernel) (by decide +kernel)
theorem g_650 : (Jvm.Cond.code ({ cls := "ToldRowsModel", name := "gap", desc := "(III)I" } : Jvm.MethodName) prog_6_method_29_code (8 : Nat) (Option.some Jvm.ClassFile.FieldType.int)) ∈ lw_G := lw_mem 650 (by decide +kernel) (by decide +kernel)
theorem g_651 : (Jvm.Cond.methodLink "ToldRowsModel" (115 : Nat) ({ cls := "ToldRowsModel", name := "hasNumber", desc := "(III)Z" } : Jvm.MethodName)) ∈ lw_G := lw_mem 651 (by decide +kernel) (by decide +kernel)
theorem g_653 : (Jvm.Cond.instanceMethod ({ cls := "ToldRowsModel", name := "hasNumber", desc := "(III)Z" } : Jvm.MethodName)) ∈ lw_G := lw_mem 653 (by decide +kernel) (by decide +kernel)
theorem g_654 : (Jvm.Cond.code ({ cls := "ToldRowsModel", name := "hasNumber", desc := "(III)Z" } : Jvm.MethodName) prog_6_method_28_code (6 : Nat) (Option.some Jvm.ClassFile.FieldType.boolean)) ∈ lw_G := lw_mem 654 (by decide +kernel) (by decide +kernel)
theorem g_655 : (Jvm.Cond.constantLong "ToldRowsLaw" (80 : Nat) (4294967295 : Int64)) ∈ lw_G := lw_mem 655 (by decide +kernel) (by decide +kernel)
theorem g_656 : (Jvm.Cond.arrayClass Jvm.ClassFile.FieldType.long) ∈ lw_G := lw_mem 656 (by decide +kernel) (by decide +kernel)
end
section
theorem dX0_init_0 : decode cX0_init 0 = .ok (.aload_n 0, 1) := by decide +kernel
theorem dX0_init_1 : decode cX0_init 1 = .ok (.invokespecial 3, 3) := by decide +kernel
theorem dX0_init_4 : decode cX0_init 4 = .ok (.aload_n 0, 1) := by decide +kernel
theorem dX0_init_5 : decode cX0_init 5 = .ok (.bipush 120, 2) := by decide +kernel
theorem dX0_init_7 : decode cX0_init 7 = .ok (.newarray .int, 2) := by decide +kernel
theorem dX0_init_9 : decode cX0_init 9 = .ok (.putfield 9, 3) := by decide +kernel
theorem dX0_init_12 : decode cX0_init 12 = .ok (.return_, 1) := by decide +kernel
theorem dX0_has_0 : decode cX0_has 0 = .ok (.aload_n 0, 1) := by decide +kernel
theorem dX0_has_1 : decode cX0_has 1 = .ok (.getfield 9, 3) := by decide +kernel
theorem dX0_has_4 : decode cX0_has 4 = .ok (.iload_n 1, 1) := by decide +kernel
theorem dX0_has_5 : decode cX0_has 5 = .ok (.iaload, 1) := by decide +kernel
theorem dX0_has_6 : decode cX0_has 6 = .ok (.ifCond .eq 7, 3) := by decide +kernel
theorem dX0_has_9 : decode cX0_has 9 = .ok (.iconst 1, 1) := by decide +kernel
theorem dX0_has_10 : decode cX0_has 10 = .ok (.goto 4, 3) := by decide +kernel
theorem dX0_has_13 : decode cX0_has 13 = .ok (.iconst 0, 1) := by decide +kernel
theorem dX0_has_14 : decode cX0_has 14 = .ok (.ireturn, 1) := by decide +kernel
theorem dX0_take_0 : decode cX0_take 0 = .ok (.aload_n 0, 1) := by decide +kernel
theorem dX0_take_1 : decode cX0_take 1 = .ok (.getfield 15, 3) := by decide +kernel
theorem dX0_take_4 : decode cX0_take 4 = .ok (.ifCond .eq 23, 3) := by decide +kernel
theorem dX0_take_7 : decode cX0_take 7 = .ok (.aload_n 0, 1) := by decide +kernel
theorem dX0_take_8 : decode cX0_take 8 = .ok (.getfield 9, 3) := by decide +kernel
theorem dX0_take_11 : decode cX0_take 11 = .ok (.iload_n 1, 1) := by decide +kernel
theorem dX0_take_12 : decode cX0_take 12 = .ok (.iconst (-1), 1) := by decide +kernel
theorem dX0_take_13 : decode cX0_take 13 = .ok (.iastore, 1) := by decide +kernel
theorem dX0_take_14 : decode cX0_take 14 = .ok (.aload_n 0, 1) := by decide +kernel
theorem dX0_take_15 : decode cX0_take 15 = .ok (.dup, 1) := by decide +kernel
theorem dX0_take_16 : decode cX0_take 16 = .ok (.getfield 19, 3) := by decide +kernel
theorem dX0_take_19 : decode cX0_take 19 = .ok (.iconst 1, 1) := by decide +kernel
theorem dX0_take_20 : decode cX0_take 20 = .ok (.iadd, 1) := by decide +kernel
theorem dX0_take_21 : decode cX0_take 21 = .ok (.putfield 19, 3) := by decide +kernel
theorem dX0_take_24 : decode cX0_take 24 = .ok (.goto 33, 3) := by decide +kernel
theorem dX0_take_27 : decode cX0_take 27 = .ok (.aload_n 0, 1) := by decide +kernel
theorem dX0_take_28 : decode cX0_take 28 = .ok (.dup, 1) := by decide +kernel
theorem dX0_take_29 : decode cX0_take 29 = .ok (.getfield 23, 3) := by decide +kernel
theorem dX0_take_32 : decode cX0_take 32 = .ok (.iconst 1, 1) := by decide +kernel
theorem dX0_take_33 : decode cX0_take 33 = .ok (.iadd, 1) := by decide +kernel
theorem dX0_take_34 : decode cX0_take 34 = .ok (.putfield 23, 3) := by decide +kernel
theorem dX0_take_37 : decode cX0_take 37 = .ok (.aload_n 0, 1) := by decide +kernel
theorem dX0_take_38 : decode cX0_take 38 = .ok (.getfield 9, 3) := by decide +kernel
theorem dX0_take_41 : decode cX0_take 41 = .ok (.iload_n 1, 1) := by decide +kernel
theorem dX0_take_42 : decode cX0_take 42 = .ok (.aload_n 0, 1) := by decide +kernel
theorem dX0_take_43 : decode cX0_take 43 = .ok (.getfield 23, 3) := by decide +kernel
theorem dX0_take_46 : decode cX0_take 46 = .ok (.iastore, 1) := by decide +kernel
theorem dX0_take_47 : decode cX0_take 47 = .ok (.aload_n 0, 1) := by decide +kernel
theorem dX0_take_48 : decode cX0_take 48 = .ok (.dup, 1) := by decide +kernel
theorem dX0_take_49 : decode cX0_take 49 = .ok (.getfield 26, 3) := by decide +kernel
theorem dX0_take_52 : decode cX0_take 52 = .ok (.iconst 1, 1) := by decide +kernel
theorem dX0_take_53 : decode cX0_take 53 = .ok (.iadd, 1) := by decide +kernel
theorem dX0_take_54 : decode cX0_take 54 = .ok (.putfield 26, 3) := by decide +kernel
theorem dX0_take_57 : decode cX0_take 57 = .ok (.return_, 1) := by decide +kernel
theorem dX0_hasSeen_0 : decode cX0_hasSeen 0 = .ok (.aload_n 0, 1) := by decide +kernel
theorem dX0_hasSeen_1 : decode cX0_hasSeen 1 = .ok (.getfield 9, 3) := by decide +kernel
theorem dX0_hasSeen_4 : decode cX0_hasSeen 4 = .ok (.iload_n 1, 1) := by decide +kernel
theorem dX0_hasSeen_5 : decode cX0_hasSeen 5 = .ok (.iaload, 1) := by decide +kernel
theorem dX0_hasSeen_6 : decode cX0_hasSeen 6 = .ok (.ifCond .le 7, 3) := by decide +kernel
theorem dX0_hasSeen_9 : decode cX0_hasSeen 9 = .ok (.iconst 1, 1) := by decide +kernel
theorem dX0_hasSeen_10 : decode cX0_hasSeen 10 = .ok (.goto 4, 3) := by decide +kernel
theorem dX0_hasSeen_13 : decode cX0_hasSeen 13 = .ok (.iconst 0, 1) := by decide +kernel
theorem dX0_hasSeen_14 : decode cX0_hasSeen 14 = .ok (.ireturn, 1) := by decide +kernel
theorem dX0_endBatch_0 : decode cX0_endBatch 0 = .ok (.aload_n 0, 1) := by decide +kernel
theorem dX0_endBatch_1 : decode cX0_endBatch 1 = .ok (.iconst 0, 1) := by decide +kernel
theorem dX0_endBatch_2 : decode cX0_endBatch 2 = .ok (.putfield 15, 3) := by decide +kernel
theorem dX0_endBatch_5 : decode cX0_endBatch 5 = .ok (.aload_n 0, 1) := by decide +kernel
theorem dX0_endBatch_6 : decode cX0_endBatch 6 = .ok (.getfield 19, 3) := by decide +kernel
theorem dX0_endBatch_9 : decode cX0_endBatch 9 = .ok (.ifCond .ne 4, 3) := by decide +kernel
theorem dX0_endBatch_12 : decode cX0_endBatch 12 = .ok (.return_, 1) := by decide +kernel
theorem dX0_endBatch_13 : decode cX0_endBatch 13 = .ok (.aload_n 0, 1) := by decide +kernel
theorem dX0_endBatch_14 : decode cX0_endBatch 14 = .ok (.dup, 1) := by decide +kernel
theorem dX0_endBatch_15 : decode cX0_endBatch 15 = .ok (.getfield 23, 3) := by decide +kernel
theorem dX0_endBatch_18 : decode cX0_endBatch 18 = .ok (.iconst 1, 1) := by decide +kernel
theorem dX0_endBatch_19 : decode cX0_endBatch 19 = .ok (.iadd, 1) := by decide +kernel
theorem dX0_endBatch_20 : decode cX0_endBatch 20 = .ok (.putfield 23, 3) := by decide +kernel
theorem dX0_endBatch_23 : decode cX0_endBatch 23 = .ok (.iconst 0, 1) := by decide +kernel
theorem dX0_endBatch_24 : decode cX0_endBatch 24 = .ok (.istore_n 1, 1) := by decide +kernel
theorem dX0_endBatch_25 : decode cX0_endBatch 25 = .ok (.iload_n 1, 1) := by decide +kernel
theorem dX0_endBatch_26 : decode cX0_endBatch 26 = .ok (.bipush 120, 2) := by decide +kernel
theorem dX0_endBatch_28 : decode cX0_endBatch 28 = .ok (.if_icmp .ge 29, 3) := by decide +kernel
theorem dX0_endBatch_31 : decode cX0_endBatch 31 = .ok (.aload_n 0, 1) := by decide +kernel
theorem dX0_endBatch_32 : decode cX0_endBatch 32 = .ok (.getfield 9, 3) := by decide +kernel
theorem dX0_endBatch_35 : decode cX0_endBatch 35 = .ok (.iload_n 1, 1) := by decide +kernel
theorem dX0_endBatch_36 : decode cX0_endBatch 36 = .ok (.iaload, 1) := by decide +kernel
theorem dX0_endBatch_37 : decode cX0_endBatch 37 = .ok (.iconst (-1), 1) := by decide +kernel
theorem dX0_endBatch_38 : decode cX0_endBatch 38 = .ok (.if_icmp .ne 13, 3) := by decide +kernel
theorem dX0_endBatch_41 : decode cX0_endBatch 41 = .ok (.aload_n 0, 1) := by decide +kernel
theorem dX0_endBatch_42 : decode cX0_endBatch 42 = .ok (.getfield 9, 3) := by decide +kernel
theorem dX0_endBatch_45 : decode cX0_endBatch 45 = .ok (.iload_n 1, 1) := by decide +kernel
theorem dX0_endBatch_46 : decode cX0_endBatch 46 = .ok (.aload_n 0, 1) := by decide +kernel
theorem dX0_endBatch_47 : decode cX0_endBatch 47 = .ok (.getfield 23, 3) := by decide +kernel
theorem dX0_endBatch_50 : decode cX0_endBatch 50 = .ok (.iastore, 1) := by decide +kernel
theorem dX0_endBatch_51 : decode cX0_endBatch 51 = .ok (.iinc 1 1, 3) := by decide +kernel
theorem dX0_endBatch_54 : decode cX0_endBatch 54 = .ok (.goto (-29), 3) := by decide +kernel
theorem dX0_endBatch_57 : decode cX0_endBatch 57 = .ok (.aload_n 0, 1) := by decide +kernel
theorem dX0_endBatch_58 : decode cX0_endBatch 58 = .ok (.dup, 1) := by decide +kernel
theorem dX0_endBatch_59 : decode cX0_endBatch 59 = .ok (.getfield 26, 3) := by decide +kernel
theorem dX0_endBatch_62 : decode cX0_endBatch 62 = .ok (.aload_n 0, 1) := by decide +kernel
theorem dX0_endBatch_63 : decode cX0_endBatch 63 = .ok (.getfield 19, 3) := by decide +kernel
theorem dX0_endBatch_66 : decode cX0_endBatch 66 = .ok (.iadd, 1) := by decide +kernel
theorem dX0_endBatch_67 : decode cX0_endBatch 67 = .ok (.putfield 26, 3) := by decide +kernel
theorem dX0_endBatch_70 : decode cX0_endBatch 70 = .ok (.aload_n 0, 1) := by decide +kernel
theorem dX0_endBatch_71 : decode cX0_endBatch 71 = .ok (.iconst 0, 1) := by decide +kernel
theorem dX0_endBatch_72 : decode cX0_endBatch 72 = .ok (.putfield 19, 3) := by decide +kernel
theorem dX0_endBatch_75 : decode cX0_endBatch 75 = .ok (.return_, 1) := by decide +kernel
theorem dX0_hadSeen_0 : decode cX0_hadSeen 0 = .ok (.aload_n 0, 1) := by decide +kernel
theorem dX0_hadSeen_1 : decode cX0_hadSeen 1 = .ok (.getfield 9, 3) := by decide +kernel
theorem dX0_hadSeen_4 : decode cX0_hadSeen 4 = .ok (.iload_n 1, 1) := by decide +kernel
theorem dX0_hadSeen_5 : decode cX0_hadSeen 5 = .ok (.iaload, 1) := by decide +kernel
theorem dX0_hadSeen_6 : decode cX0_hadSeen 6 = .ok (.ifCond .le 17, 3) := by decide +kernel
theorem dX0_hadSeen_9 : decode cX0_hadSeen 9 = .ok (.aload_n 0, 1) := by decide +kernel
theorem dX0_hadSeen_10 : decode cX0_hadSeen 10 = .ok (.getfield 9, 3) := by decide +kernel
theorem dX0_hadSeen_13 : decode cX0_hadSeen 13 = .ok (.iload_n 1, 1) := by decide +kernel
theorem dX0_hadSeen_14 : decode cX0_hadSeen 14 = .ok (.iaload, 1) := by decide +kernel
theorem dX0_hadSeen_15 : decode cX0_hadSeen 15 = .ok (.iload_n 2, 1) := by decide +kernel
theorem dX0_hadSeen_16 : decode cX0_hadSeen 16 = .ok (.if_icmp .gt 7, 3) := by decide +kernel
theorem dX0_hadSeen_19 : decode cX0_hadSeen 19 = .ok (.iconst 1, 1) := by decide +kernel
theorem dX0_hadSeen_20 : decode cX0_hadSeen 20 = .ok (.goto 4, 3) := by decide +kernel
theorem dX0_hadSeen_23 : decode cX0_hadSeen 23 = .ok (.iconst 0, 1) := by decide +kernel
theorem dX0_hadSeen_24 : decode cX0_hadSeen 24 = .ok (.ireturn, 1) := by decide +kernel
theorem dX1_init_0 : decode cX1_init 0 = .ok (.aload_n 0, 1) := by decide +kernel
theorem dX1_init_1 : decode cX1_init 1 = .ok (.invokespecial 3, 3) := by decide +kernel
theorem dX1_init_4 : decode cX1_init 4 = .ok (.aload_n 0, 1) := by decide +kernel
theorem dX1_init_5 : decode cX1_init 5 = .ok (.bipush 6, 2) := by decide +kernel
theorem dX1_init_7 : decode cX1_init 7 = .ok (.newarray .int, 2) := by decide +kernel
theorem dX1_init_9 : decode cX1_init 9 = .ok (.putfield 9, 3) := by decide +kernel
theorem dX1_init_12 : decode cX1_init 12 = .ok (.aload_n 0, 1) := by decide +kernel
theorem dX1_init_13 : decode cX1_init 13 = .ok (.bipush 6, 2) := by decide +kernel
theorem dX1_init_15 : decode cX1_init 15 = .ok (.newarray .int, 2) := by decide +kernel
theorem dX1_init_17 : decode cX1_init 17 = .ok (.putfield 15, 3) := by decide +kernel
theorem dX1_init_20 : decode cX1_init 20 = .ok (.return_, 1) := by decide +kernel
theorem dX1_canFollow_0 : decode cX1_canFollow 0 = .ok (.aload_n 0, 1) := by decide +kernel
theorem dX1_canFollow_1 : decode cX1_canFollow 1 = .ok (.getfield 18, 3) := by decide +kernel
theorem dX1_canFollow_4 : decode cX1_canFollow 4 = .ok (.ifCond .eq 33, 3) := by decide +kernel
theorem dX1_canFollow_7 : decode cX1_canFollow 7 = .ok (.iload_n 1, 1) := by decide +kernel
theorem dX1_canFollow_8 : decode cX1_canFollow 8 = .ok (.aload_n 0, 1) := by decide +kernel
theorem dX1_canFollow_9 : decode cX1_canFollow 9 = .ok (.getfield 9, 3) := by decide +kernel
theorem dX1_canFollow_12 : decode cX1_canFollow 12 = .ok (.aload_n 0, 1) := by decide +kernel
theorem dX1_canFollow_13 : decode cX1_canFollow 13 = .ok (.getfield 18, 3) := by decide +kernel
theorem dX1_canFollow_16 : decode cX1_canFollow 16 = .ok (.iconst 1, 1) := by decide +kernel
theorem dX1_canFollow_17 : decode cX1_canFollow 17 = .ok (.isub, 1) := by decide +kernel
theorem dX1_canFollow_18 : decode cX1_canFollow 18 = .ok (.iaload, 1) := by decide +kernel
theorem dX1_canFollow_19 : decode cX1_canFollow 19 = .ok (.if_icmp .le 22, 3) := by decide +kernel
theorem dX1_canFollow_22 : decode cX1_canFollow 22 = .ok (.iload_n 2, 1) := by decide +kernel
theorem dX1_canFollow_23 : decode cX1_canFollow 23 = .ok (.aload_n 0, 1) := by decide +kernel
theorem dX1_canFollow_24 : decode cX1_canFollow 24 = .ok (.getfield 15, 3) := by decide +kernel
theorem dX1_canFollow_27 : decode cX1_canFollow 27 = .ok (.aload_n 0, 1) := by decide +kernel
theorem dX1_canFollow_28 : decode cX1_canFollow 28 = .ok (.getfield 18, 3) := by decide +kernel
theorem dX1_canFollow_31 : decode cX1_canFollow 31 = .ok (.iconst 1, 1) := by decide +kernel
theorem dX1_canFollow_32 : decode cX1_canFollow 32 = .ok (.isub, 1) := by decide +kernel
theorem dX1_canFollow_33 : decode cX1_canFollow 33 = .ok (.iaload, 1) := by decide +kernel
theorem dX1_canFollow_34 : decode cX1_canFollow 34 = .ok (.if_icmp .lt 7, 3) := by decide +kernel
theorem dX1_canFollow_37 : decode cX1_canFollow 37 = .ok (.iconst 1, 1) := by decide +kernel
theorem dX1_canFollow_38 : decode cX1_canFollow 38 = .ok (.goto 4, 3) := by decide +kernel
theorem dX1_canFollow_41 : decode cX1_canFollow 41 = .ok (.iconst 0, 1) := by decide +kernel
theorem dX1_canFollow_42 : decode cX1_canFollow 42 = .ok (.ireturn, 1) := by decide +kernel
theorem dX1_addMark_0 : decode cX1_addMark 0 = .ok (.aload_n 0, 1) := by decide +kernel
theorem dX1_addMark_1 : decode cX1_addMark 1 = .ok (.getfield 9, 3) := by decide +kernel
theorem dX1_addMark_4 : decode cX1_addMark 4 = .ok (.aload_n 0, 1) := by decide +kernel
theorem dX1_addMark_5 : decode cX1_addMark 5 = .ok (.getfield 18, 3) := by decide +kernel
theorem dX1_addMark_8 : decode cX1_addMark 8 = .ok (.iload_n 1, 1) := by decide +kernel
theorem dX1_addMark_9 : decode cX1_addMark 9 = .ok (.iastore, 1) := by decide +kernel
theorem dX1_addMark_10 : decode cX1_addMark 10 = .ok (.aload_n 0, 1) := by decide +kernel
theorem dX1_addMark_11 : decode cX1_addMark 11 = .ok (.getfield 15, 3) := by decide +kernel
theorem dX1_addMark_14 : decode cX1_addMark 14 = .ok (.aload_n 0, 1) := by decide +kernel
theorem dX1_addMark_15 : decode cX1_addMark 15 = .ok (.getfield 18, 3) := by decide +kernel
theorem dX1_addMark_18 : decode cX1_addMark 18 = .ok (.iload_n 2, 1) := by decide +kernel
theorem dX1_addMark_19 : decode cX1_addMark 19 = .ok (.iastore, 1) := by decide +kernel
theorem dX1_addMark_20 : decode cX1_addMark 20 = .ok (.aload_n 0, 1) := by decide +kernel
theorem dX1_addMark_21 : decode cX1_addMark 21 = .ok (.dup, 1) := by decide +kernel
theorem dX1_addMark_22 : decode cX1_addMark 22 = .ok (.getfield 18, 3) := by decide +kernel
theorem dX1_addMark_25 : decode cX1_addMark 25 = .ok (.iconst 1, 1) := by decide +kernel
theorem dX1_addMark_26 : decode cX1_addMark 26 = .ok (.iadd, 1) := by decide +kernel
theorem dX1_addMark_27 : decode cX1_addMark 27 = .ok (.putfield 18, 3) := by decide +kernel
theorem dX1_addMark_30 : decode cX1_addMark 30 = .ok (.return_, 1) := by decide +kernel
theorem dX1_realTime_0 : decode cX1_realTime 0 = .ok (.aload_n 0, 1) := by decide +kernel
theorem dX1_realTime_1 : decode cX1_realTime 1 = .ok (.getfield 18, 3) := by decide +kernel
theorem dX1_realTime_4 : decode cX1_realTime 4 = .ok (.ifCond .ne 5, 3) := by decide +kernel
theorem dX1_realTime_7 : decode cX1_realTime 7 = .ok (.iload_n 1, 1) := by decide +kernel
theorem dX1_realTime_8 : decode cX1_realTime 8 = .ok (.ireturn, 1) := by decide +kernel
theorem dX1_realTime_9 : decode cX1_realTime 9 = .ok (.aload_n 0, 1) := by decide +kernel
theorem dX1_realTime_10 : decode cX1_realTime 10 = .ok (.iload_n 1, 1) := by decide +kernel
theorem dX1_realTime_11 : decode cX1_realTime 11 = .ok (.invokevirtual 22, 3) := by decide +kernel
theorem dX1_realTime_14 : decode cX1_realTime 14 = .ok (.istore_n 2, 1) := by decide +kernel
theorem dX1_realTime_15 : decode cX1_realTime 15 = .ok (.iload_n 2, 1) := by decide +kernel
theorem dX1_realTime_16 : decode cX1_realTime 16 = .ok (.ifCond .le 20, 3) := by decide +kernel
theorem dX1_realTime_19 : decode cX1_realTime 19 = .ok (.iload_n 2, 1) := by decide +kernel
theorem dX1_realTime_20 : decode cX1_realTime 20 = .ok (.aload_n 0, 1) := by decide +kernel
theorem dX1_realTime_21 : decode cX1_realTime 21 = .ok (.getfield 18, 3) := by decide +kernel
theorem dX1_realTime_24 : decode cX1_realTime 24 = .ok (.if_icmp .ge 12, 3) := by decide +kernel
theorem dX1_realTime_27 : decode cX1_realTime 27 = .ok (.aload_n 0, 1) := by decide +kernel
theorem dX1_realTime_28 : decode cX1_realTime 28 = .ok (.iload_n 2, 1) := by decide +kernel
theorem dX1_realTime_29 : decode cX1_realTime 29 = .ok (.iconst 1, 1) := by decide +kernel
theorem dX1_realTime_30 : decode cX1_realTime 30 = .ok (.isub, 1) := by decide +kernel
theorem dX1_realTime_31 : decode cX1_realTime 31 = .ok (.iload_n 1, 1) := by decide +kernel
theorem dX1_realTime_32 : decode cX1_realTime 32 = .ok (.invokevirtual 26, 3) := by decide +kernel
theorem dX1_realTime_35 : decode cX1_realTime 35 = .ok (.ireturn, 1) := by decide +kernel
theorem dX1_realTime_36 : decode cX1_realTime 36 = .ok (.iload_n 2, 1) := by decide +kernel
theorem dX1_realTime_37 : decode cX1_realTime 37 = .ok (.ifCond .ne 7, 3) := by decide +kernel
theorem dX1_realTime_40 : decode cX1_realTime 40 = .ok (.iconst 0, 1) := by decide +kernel
theorem dX1_realTime_41 : decode cX1_realTime 41 = .ok (.goto 9, 3) := by decide +kernel
theorem dX1_realTime_44 : decode cX1_realTime 44 = .ok (.aload_n 0, 1) := by decide +kernel
theorem dX1_realTime_45 : decode cX1_realTime 45 = .ok (.getfield 18, 3) := by decide +kernel
theorem dX1_realTime_48 : decode cX1_realTime 48 = .ok (.iconst 1, 1) := by decide +kernel
theorem dX1_realTime_49 : decode cX1_realTime 49 = .ok (.isub, 1) := by decide +kernel
theorem dX1_realTime_50 : decode cX1_realTime 50 = .ok (.istore_n 3, 1) := by decide +kernel
theorem dX1_realTime_51 : decode cX1_realTime 51 = .ok (.iload_n 1, 1) := by decide +kernel
theorem dX1_realTime_52 : decode cX1_realTime 52 = .ok (.aload_n 0, 1) := by decide +kernel
theorem dX1_realTime_53 : decode cX1_realTime 53 = .ok (.getfield 15, 3) := by decide +kernel
theorem dX1_realTime_56 : decode cX1_realTime 56 = .ok (.iload_n 3, 1) := by decide +kernel
theorem dX1_realTime_57 : decode cX1_realTime 57 = .ok (.iaload, 1) := by decide +kernel
theorem dX1_realTime_58 : decode cX1_realTime 58 = .ok (.aload_n 0, 1) := by decide +kernel
theorem dX1_realTime_59 : decode cX1_realTime 59 = .ok (.getfield 9, 3) := by decide +kernel
theorem dX1_realTime_62 : decode cX1_realTime 62 = .ok (.iload_n 3, 1) := by decide +kernel
theorem dX1_realTime_63 : decode cX1_realTime 63 = .ok (.iaload, 1) := by decide +kernel
theorem dX1_realTime_64 : decode cX1_realTime 64 = .ok (.isub, 1) := by decide +kernel
theorem dX1_realTime_65 : decode cX1_realTime 65 = .ok (.iadd, 1) := by decide +kernel
theorem dX1_realTime_66 : decode cX1_realTime 66 = .ok (.ireturn, 1) := by decide +kernel
theorem dX1_marksUpTo_0 : decode cX1_marksUpTo 0 = .ok (.iconst 0, 1) := by decide +kernel
theorem dX1_marksUpTo_1 : decode cX1_marksUpTo 1 = .ok (.istore_n 2, 1) := by decide +kernel
theorem dX1_marksUpTo_2 : decode cX1_marksUpTo 2 = .ok (.iload_n 2, 1) := by decide +kernel
theorem dX1_marksUpTo_3 : decode cX1_marksUpTo 3 = .ok (.aload_n 0, 1) := by decide +kernel
theorem dX1_marksUpTo_4 : decode cX1_marksUpTo 4 = .ok (.getfield 18, 3) := by decide +kernel
theorem dX1_marksUpTo_7 : decode cX1_marksUpTo 7 = .ok (.if_icmp .ge 19, 3) := by decide +kernel
theorem dX1_marksUpTo_10 : decode cX1_marksUpTo 10 = .ok (.aload_n 0, 1) := by decide +kernel
theorem dX1_marksUpTo_11 : decode cX1_marksUpTo 11 = .ok (.getfield 9, 3) := by decide +kernel
theorem dX1_marksUpTo_14 : decode cX1_marksUpTo 14 = .ok (.iload_n 2, 1) := by decide +kernel
theorem dX1_marksUpTo_15 : decode cX1_marksUpTo 15 = .ok (.iaload, 1) := by decide +kernel
theorem dX1_marksUpTo_16 : decode cX1_marksUpTo 16 = .ok (.iload_n 1, 1) := by decide +kernel
theorem dX1_marksUpTo_17 : decode cX1_marksUpTo 17 = .ok (.if_icmp .gt 9, 3) := by decide +kernel
theorem dX1_marksUpTo_20 : decode cX1_marksUpTo 20 = .ok (.iinc 2 1, 3) := by decide +kernel
theorem dX1_marksUpTo_23 : decode cX1_marksUpTo 23 = .ok (.goto (-21), 3) := by decide +kernel
theorem dX1_marksUpTo_26 : decode cX1_marksUpTo 26 = .ok (.iload_n 2, 1) := by decide +kernel
theorem dX1_marksUpTo_27 : decode cX1_marksUpTo 27 = .ok (.ireturn, 1) := by decide +kernel
theorem dX1_realBetween_0 : decode cX1_realBetween 0 = .ok (.aload_n 0, 1) := by decide +kernel
theorem dX1_realBetween_1 : decode cX1_realBetween 1 = .ok (.getfield 9, 3) := by decide +kernel
theorem dX1_realBetween_4 : decode cX1_realBetween 4 = .ok (.iload_n 1, 1) := by decide +kernel
theorem dX1_realBetween_5 : decode cX1_realBetween 5 = .ok (.iconst 1, 1) := by decide +kernel
theorem dX1_realBetween_6 : decode cX1_realBetween 6 = .ok (.iadd, 1) := by decide +kernel
theorem dX1_realBetween_7 : decode cX1_realBetween 7 = .ok (.iaload, 1) := by decide +kernel
theorem dX1_realBetween_8 : decode cX1_realBetween 8 = .ok (.aload_n 0, 1) := by decide +kernel
theorem dX1_realBetween_9 : decode cX1_realBetween 9 = .ok (.getfield 9, 3) := by decide +kernel
theorem dX1_realBetween_12 : decode cX1_realBetween 12 = .ok (.iload_n 1, 1) := by decide +kernel
theorem dX1_realBetween_13 : decode cX1_realBetween 13 = .ok (.iaload, 1) := by decide +kernel
theorem dX1_realBetween_14 : decode cX1_realBetween 14 = .ok (.isub, 1) := by decide +kernel
theorem dX1_realBetween_15 : decode cX1_realBetween 15 = .ok (.istore_n 3, 1) := by decide +kernel
theorem dX1_realBetween_16 : decode cX1_realBetween 16 = .ok (.iload_n 3, 1) := by decide +kernel
theorem dX1_realBetween_17 : decode cX1_realBetween 17 = .ok (.ifCond .gt 10, 3) := by decide +kernel
theorem dX1_realBetween_20 : decode cX1_realBetween 20 = .ok (.aload_n 0, 1) := by decide +kernel
theorem dX1_realBetween_21 : decode cX1_realBetween 21 = .ok (.getfield 15, 3) := by decide +kernel
theorem dX1_realBetween_24 : decode cX1_realBetween 24 = .ok (.iload_n 1, 1) := by decide +kernel
theorem dX1_realBetween_25 : decode cX1_realBetween 25 = .ok (.iaload, 1) := by decide +kernel
theorem dX1_realBetween_26 : decode cX1_realBetween 26 = .ok (.ireturn, 1) := by decide +kernel
theorem dX1_realBetween_27 : decode cX1_realBetween 27 = .ok (.aload_n 0, 1) := by decide +kernel
theorem dX1_realBetween_28 : decode cX1_realBetween 28 = .ok (.getfield 15, 3) := by decide +kernel
theorem dX1_realBetween_31 : decode cX1_realBetween 31 = .ok (.iload_n 1, 1) := by decide +kernel
theorem dX1_realBetween_32 : decode cX1_realBetween 32 = .ok (.iconst 1, 1) := by decide +kernel
theorem dX1_realBetween_33 : decode cX1_realBetween 33 = .ok (.iadd, 1) := by decide +kernel
theorem dX1_realBetween_34 : decode cX1_realBetween 34 = .ok (.iaload, 1) := by decide +kernel
theorem dX1_realBetween_35 : decode cX1_realBetween 35 = .ok (.aload_n 0, 1) := by decide +kernel
theorem dX1_realBetween_36 : decode cX1_realBetween 36 = .ok (.getfield 15, 3) := by decide +kernel
theorem dX1_realBetween_39 : decode cX1_realBetween 39 = .ok (.iload_n 1, 1) := by decide +kernel
theorem dX1_realBetween_40 : decode cX1_realBetween 40 = .ok (.iaload, 1) := by decide +kernel
theorem dX1_realBetween_41 : decode cX1_realBetween 41 = .ok (.isub, 1) := by decide +kernel
theorem dX1_realBetween_42 : decode cX1_realBetween 42 = .ok (.i2l, 1) := by decide +kernel
theorem dX1_realBetween_43 : decode cX1_realBetween 43 = .ok (.lstore 4, 2) := by decide +kernel
theorem dX1_realBetween_45 : decode cX1_realBetween 45 = .ok (.aload_n 0, 1) := by decide +kernel
theorem dX1_realBetween_46 : decode cX1_realBetween 46 = .ok (.getfield 15, 3) := by decide +kernel
theorem dX1_realBetween_49 : decode cX1_realBetween 49 = .ok (.iload_n 1, 1) := by decide +kernel
theorem dX1_realBetween_50 : decode cX1_realBetween 50 = .ok (.iaload, 1) := by decide +kernel
theorem dX1_realBetween_51 : decode cX1_realBetween 51 = .ok (.lload 4, 2) := by decide +kernel
theorem dX1_realBetween_53 : decode cX1_realBetween 53 = .ok (.iload_n 2, 1) := by decide +kernel
theorem dX1_realBetween_54 : decode cX1_realBetween 54 = .ok (.aload_n 0, 1) := by decide +kernel
theorem dX1_realBetween_55 : decode cX1_realBetween 55 = .ok (.getfield 9, 3) := by decide +kernel
theorem dX1_realBetween_58 : decode cX1_realBetween 58 = .ok (.iload_n 1, 1) := by decide +kernel
theorem dX1_realBetween_59 : decode cX1_realBetween 59 = .ok (.iaload, 1) := by decide +kernel
theorem dX1_realBetween_60 : decode cX1_realBetween 60 = .ok (.isub, 1) := by decide +kernel
theorem dX1_realBetween_61 : decode cX1_realBetween 61 = .ok (.i2l, 1) := by decide +kernel
theorem dX1_realBetween_62 : decode cX1_realBetween 62 = .ok (.lmul, 1) := by decide +kernel
theorem dX1_realBetween_63 : decode cX1_realBetween 63 = .ok (.iload_n 3, 1) := by decide +kernel
theorem dX1_realBetween_64 : decode cX1_realBetween 64 = .ok (.i2l, 1) := by decide +kernel
theorem dX1_realBetween_65 : decode cX1_realBetween 65 = .ok (.ldiv, 1) := by decide +kernel
theorem dX1_realBetween_66 : decode cX1_realBetween 66 = .ok (.l2i, 1) := by decide +kernel
theorem dX1_realBetween_67 : decode cX1_realBetween 67 = .ok (.iadd, 1) := by decide +kernel
theorem dX1_realBetween_68 : decode cX1_realBetween 68 = .ok (.ireturn, 1) := by decide +kernel
theorem dX2_init_0 : decode cX2_init 0 = .ok (.aload_n 0, 1) := by decide +kernel
theorem dX2_init_1 : decode cX2_init 1 = .ok (.invokespecial 3, 3) := by decide +kernel
theorem dX2_init_4 : decode cX2_init 4 = .ok (.aload_n 0, 1) := by decide +kernel
theorem dX2_init_5 : decode cX2_init 5 = .ok (.bipush 120, 2) := by decide +kernel
theorem dX2_init_7 : decode cX2_init 7 = .ok (.newarray .int, 2) := by decide +kernel
theorem dX2_init_9 : decode cX2_init 9 = .ok (.putfield 9, 3) := by decide +kernel
theorem dX2_init_12 : decode cX2_init 12 = .ok (.aload_n 0, 1) := by decide +kernel
theorem dX2_init_13 : decode cX2_init 13 = .ok (.bipush 120, 2) := by decide +kernel
theorem dX2_init_15 : decode cX2_init 15 = .ok (.newarray .int, 2) := by decide +kernel
theorem dX2_init_17 : decode cX2_init 17 = .ok (.putfield 15, 3) := by decide +kernel
theorem dX2_init_20 : decode cX2_init 20 = .ok (.aload_n 0, 1) := by decide +kernel
theorem dX2_init_21 : decode cX2_init 21 = .ok (.bipush 120, 2) := by decide +kernel
theorem dX2_init_23 : decode cX2_init 23 = .ok (.newarray .int, 2) := by decide +kernel
theorem dX2_init_25 : decode cX2_init 25 = .ok (.putfield 18, 3) := by decide +kernel
theorem dX2_init_28 : decode cX2_init 28 = .ok (.aload_n 0, 1) := by decide +kernel
theorem dX2_init_29 : decode cX2_init 29 = .ok (.bipush 120, 2) := by decide +kernel
theorem dX2_init_31 : decode cX2_init 31 = .ok (.newarray .boolean, 2) := by decide +kernel
theorem dX2_init_33 : decode cX2_init 33 = .ok (.putfield 21, 3) := by decide +kernel
theorem dX2_init_36 : decode cX2_init 36 = .ok (.return_, 1) := by decide +kernel
theorem dX2_find_0 : decode cX2_find 0 = .ok (.iconst 0, 1) := by decide +kernel
theorem dX2_find_1 : decode cX2_find 1 = .ok (.istore 4, 2) := by decide +kernel
theorem dX2_find_3 : decode cX2_find 3 = .ok (.iload 4, 2) := by decide +kernel
theorem dX2_find_5 : decode cX2_find 5 = .ok (.aload_n 0, 1) := by decide +kernel
theorem dX2_find_6 : decode cX2_find 6 = .ok (.getfield 25, 3) := by decide +kernel
theorem dX2_find_9 : decode cX2_find 9 = .ok (.if_icmp .ge 45, 3) := by decide +kernel
theorem dX2_find_12 : decode cX2_find 12 = .ok (.aload_n 0, 1) := by decide +kernel
theorem dX2_find_13 : decode cX2_find 13 = .ok (.getfield 9, 3) := by decide +kernel
theorem dX2_find_16 : decode cX2_find 16 = .ok (.iload 4, 2) := by decide +kernel
theorem dX2_find_18 : decode cX2_find 18 = .ok (.iaload, 1) := by decide +kernel
theorem dX2_find_19 : decode cX2_find 19 = .ok (.iload_n 1, 1) := by decide +kernel
theorem dX2_find_20 : decode cX2_find 20 = .ok (.if_icmp .ne 28, 3) := by decide +kernel
theorem dX2_find_23 : decode cX2_find 23 = .ok (.aload_n 0, 1) := by decide +kernel
theorem dX2_find_24 : decode cX2_find 24 = .ok (.getfield 15, 3) := by decide +kernel
theorem dX2_find_27 : decode cX2_find 27 = .ok (.iload 4, 2) := by decide +kernel
theorem dX2_find_29 : decode cX2_find 29 = .ok (.iaload, 1) := by decide +kernel
theorem dX2_find_30 : decode cX2_find 30 = .ok (.iload_n 2, 1) := by decide +kernel
theorem dX2_find_31 : decode cX2_find 31 = .ok (.if_icmp .ne 17, 3) := by decide +kernel
theorem dX2_find_34 : decode cX2_find 34 = .ok (.aload_n 0, 1) := by decide +kernel
theorem dX2_find_35 : decode cX2_find 35 = .ok (.getfield 18, 3) := by decide +kernel
theorem dX2_find_38 : decode cX2_find 38 = .ok (.iload 4, 2) := by decide +kernel
theorem dX2_find_40 : decode cX2_find 40 = .ok (.iaload, 1) := by decide +kernel
theorem dX2_find_41 : decode cX2_find 41 = .ok (.iload_n 3, 1) := by decide +kernel
theorem dX2_find_42 : decode cX2_find 42 = .ok (.if_icmp .ne 6, 3) := by decide +kernel
theorem dX2_find_45 : decode cX2_find 45 = .ok (.iload 4, 2) := by decide +kernel
theorem dX2_find_47 : decode cX2_find 47 = .ok (.ireturn, 1) := by decide +kernel
theorem dX2_find_48 : decode cX2_find 48 = .ok (.iinc 4 1, 3) := by decide +kernel
theorem dX2_find_51 : decode cX2_find 51 = .ok (.goto (-48), 3) := by decide +kernel
theorem dX2_find_54 : decode cX2_find 54 = .ok (.iconst (-1), 1) := by decide +kernel
theorem dX2_find_55 : decode cX2_find 55 = .ok (.ireturn, 1) := by decide +kernel
theorem dX2_add_0 : decode cX2_add 0 = .ok (.aload_n 0, 1) := by decide +kernel
theorem dX2_add_1 : decode cX2_add 1 = .ok (.getfield 25, 3) := by decide +kernel
theorem dX2_add_4 : decode cX2_add 4 = .ok (.istore 4, 2) := by decide +kernel
theorem dX2_add_6 : decode cX2_add 6 = .ok (.aload_n 0, 1) := by decide +kernel
theorem dX2_add_7 : decode cX2_add 7 = .ok (.getfield 9, 3) := by decide +kernel
theorem dX2_add_10 : decode cX2_add 10 = .ok (.iload 4, 2) := by decide +kernel
theorem dX2_add_12 : decode cX2_add 12 = .ok (.iload_n 1, 1) := by decide +kernel
theorem dX2_add_13 : decode cX2_add 13 = .ok (.iastore, 1) := by decide +kernel
theorem dX2_add_14 : decode cX2_add 14 = .ok (.aload_n 0, 1) := by decide +kernel
theorem dX2_add_15 : decode cX2_add 15 = .ok (.getfield 15, 3) := by decide +kernel
theorem dX2_add_18 : decode cX2_add 18 = .ok (.iload 4, 2) := by decide +kernel
theorem dX2_add_20 : decode cX2_add 20 = .ok (.iload_n 2, 1) := by decide +kernel
theorem dX2_add_21 : decode cX2_add 21 = .ok (.iastore, 1) := by decide +kernel
theorem dX2_add_22 : decode cX2_add 22 = .ok (.aload_n 0, 1) := by decide +kernel
theorem dX2_add_23 : decode cX2_add 23 = .ok (.getfield 18, 3) := by decide +kernel
theorem dX2_add_26 : decode cX2_add 26 = .ok (.iload 4, 2) := by decide +kernel
theorem dX2_add_28 : decode cX2_add 28 = .ok (.iload_n 3, 1) := by decide +kernel
theorem dX2_add_29 : decode cX2_add 29 = .ok (.iastore, 1) := by decide +kernel
theorem dX2_add_30 : decode cX2_add 30 = .ok (.aload_n 0, 1) := by decide +kernel
theorem dX2_add_31 : decode cX2_add 31 = .ok (.dup, 1) := by decide +kernel
theorem dX2_add_32 : decode cX2_add 32 = .ok (.getfield 25, 3) := by decide +kernel
theorem dX2_add_35 : decode cX2_add 35 = .ok (.iconst 1, 1) := by decide +kernel
theorem dX2_add_36 : decode cX2_add 36 = .ok (.iadd, 1) := by decide +kernel
theorem dX2_add_37 : decode cX2_add 37 = .ok (.putfield 25, 3) := by decide +kernel
theorem dX2_add_40 : decode cX2_add 40 = .ok (.iload 4, 2) := by decide +kernel
theorem dX2_add_42 : decode cX2_add 42 = .ok (.ireturn, 1) := by decide +kernel
theorem dX2_areRivals_0 : decode cX2_areRivals 0 = .ok (.iload_n 1, 1) := by decide +kernel
theorem dX2_areRivals_1 : decode cX2_areRivals 1 = .ok (.iload_n 2, 1) := by decide +kernel
theorem dX2_areRivals_2 : decode cX2_areRivals 2 = .ok (.if_icmp .eq 22, 3) := by decide +kernel
theorem dX2_areRivals_5 : decode cX2_areRivals 5 = .ok (.aload_n 0, 1) := by decide +kernel
theorem dX2_areRivals_6 : decode cX2_areRivals 6 = .ok (.getfield 9, 3) := by decide +kernel
theorem dX2_areRivals_9 : decode cX2_areRivals 9 = .ok (.iload_n 1, 1) := by decide +kernel
theorem dX2_areRivals_10 : decode cX2_areRivals 10 = .ok (.iaload, 1) := by decide +kernel
theorem dX2_areRivals_11 : decode cX2_areRivals 11 = .ok (.aload_n 0, 1) := by decide +kernel
theorem dX2_areRivals_12 : decode cX2_areRivals 12 = .ok (.getfield 9, 3) := by decide +kernel
theorem dX2_areRivals_15 : decode cX2_areRivals 15 = .ok (.iload_n 2, 1) := by decide +kernel
theorem dX2_areRivals_16 : decode cX2_areRivals 16 = .ok (.iaload, 1) := by decide +kernel
theorem dX2_areRivals_17 : decode cX2_areRivals 17 = .ok (.if_icmp .ne 7, 3) := by decide +kernel
theorem dX2_areRivals_20 : decode cX2_areRivals 20 = .ok (.iconst 1, 1) := by decide +kernel
theorem dX2_areRivals_21 : decode cX2_areRivals 21 = .ok (.goto 4, 3) := by decide +kernel
theorem dX2_areRivals_24 : decode cX2_areRivals 24 = .ok (.iconst 0, 1) := by decide +kernel
theorem dX2_areRivals_25 : decode cX2_areRivals 25 = .ok (.ireturn, 1) := by decide +kernel
theorem dX2_findKth_0 : decode cX2_findKth 0 = .ok (.iload_n 2, 1) := by decide +kernel
theorem dX2_findKth_1 : decode cX2_findKth 1 = .ok (.istore_n 3, 1) := by decide +kernel
theorem dX2_findKth_2 : decode cX2_findKth 2 = .ok (.iconst 0, 1) := by decide +kernel
theorem dX2_findKth_3 : decode cX2_findKth 3 = .ok (.istore 4, 2) := by decide +kernel
theorem dX2_findKth_5 : decode cX2_findKth 5 = .ok (.iload 4, 2) := by decide +kernel
theorem dX2_findKth_7 : decode cX2_findKth 7 = .ok (.aload_n 0, 1) := by decide +kernel
theorem dX2_findKth_8 : decode cX2_findKth 8 = .ok (.getfield 25, 3) := by decide +kernel
theorem dX2_findKth_11 : decode cX2_findKth 11 = .ok (.if_icmp .ge 30, 3) := by decide +kernel
theorem dX2_findKth_14 : decode cX2_findKth 14 = .ok (.aload_n 0, 1) := by decide +kernel
theorem dX2_findKth_15 : decode cX2_findKth 15 = .ok (.getfield 9, 3) := by decide +kernel
theorem dX2_findKth_18 : decode cX2_findKth 18 = .ok (.iload 4, 2) := by decide +kernel
theorem dX2_findKth_20 : decode cX2_findKth 20 = .ok (.iaload, 1) := by decide +kernel
theorem dX2_findKth_21 : decode cX2_findKth 21 = .ok (.iload_n 1, 1) := by decide +kernel
theorem dX2_findKth_22 : decode cX2_findKth 22 = .ok (.if_icmp .ne 13, 3) := by decide +kernel
theorem dX2_findKth_25 : decode cX2_findKth 25 = .ok (.iload_n 3, 1) := by decide +kernel
theorem dX2_findKth_26 : decode cX2_findKth 26 = .ok (.ifCond .ne 6, 3) := by decide +kernel
theorem dX2_findKth_29 : decode cX2_findKth 29 = .ok (.iload 4, 2) := by decide +kernel
theorem dX2_findKth_31 : decode cX2_findKth 31 = .ok (.ireturn, 1) := by decide +kernel
theorem dX2_findKth_32 : decode cX2_findKth 32 = .ok (.iinc 3 (-1), 3) := by decide +kernel
theorem dX2_findKth_35 : decode cX2_findKth 35 = .ok (.iinc 4 1, 3) := by decide +kernel
theorem dX2_findKth_38 : decode cX2_findKth 38 = .ok (.goto (-33), 3) := by decide +kernel
theorem dX2_findKth_41 : decode cX2_findKth 41 = .ok (.iconst (-1), 1) := by decide +kernel
theorem dX2_findKth_42 : decode cX2_findKth 42 = .ok (.ireturn, 1) := by decide +kernel
theorem dX2_settleOn_0 : decode cX2_settleOn 0 = .ok (.iconst 0, 1) := by decide +kernel
theorem dX2_settleOn_1 : decode cX2_settleOn 1 = .ok (.istore_n 2, 1) := by decide +kernel
theorem dX2_settleOn_2 : decode cX2_settleOn 2 = .ok (.iload_n 2, 1) := by decide +kernel
theorem dX2_settleOn_3 : decode cX2_settleOn 3 = .ok (.aload_n 0, 1) := by decide +kernel
theorem dX2_settleOn_4 : decode cX2_settleOn 4 = .ok (.getfield 25, 3) := by decide +kernel
theorem dX2_settleOn_7 : decode cX2_settleOn 7 = .ok (.if_icmp .ge 40, 3) := by decide +kernel
theorem dX2_settleOn_10 : decode cX2_settleOn 10 = .ok (.aload_n 0, 1) := by decide +kernel
theorem dX2_settleOn_11 : decode cX2_settleOn 11 = .ok (.getfield 9, 3) := by decide +kernel
theorem dX2_settleOn_14 : decode cX2_settleOn 14 = .ok (.iload_n 2, 1) := by decide +kernel
theorem dX2_settleOn_15 : decode cX2_settleOn 15 = .ok (.iaload, 1) := by decide +kernel
theorem dX2_settleOn_16 : decode cX2_settleOn 16 = .ok (.aload_n 0, 1) := by decide +kernel
theorem dX2_settleOn_17 : decode cX2_settleOn 17 = .ok (.getfield 9, 3) := by decide +kernel
theorem dX2_settleOn_20 : decode cX2_settleOn 20 = .ok (.iload_n 1, 1) := by decide +kernel
theorem dX2_settleOn_21 : decode cX2_settleOn 21 = .ok (.iaload, 1) := by decide +kernel
theorem dX2_settleOn_22 : decode cX2_settleOn 22 = .ok (.if_icmp .ne 19, 3) := by decide +kernel
theorem dX2_settleOn_25 : decode cX2_settleOn 25 = .ok (.aload_n 0, 1) := by decide +kernel
theorem dX2_settleOn_26 : decode cX2_settleOn 26 = .ok (.getfield 21, 3) := by decide +kernel
theorem dX2_settleOn_29 : decode cX2_settleOn 29 = .ok (.iload_n 2, 1) := by decide +kernel
theorem dX2_settleOn_30 : decode cX2_settleOn 30 = .ok (.iload_n 2, 1) := by decide +kernel
theorem dX2_settleOn_31 : decode cX2_settleOn 31 = .ok (.iload_n 1, 1) := by decide +kernel
theorem dX2_settleOn_32 : decode cX2_settleOn 32 = .ok (.if_icmp .ne 7, 3) := by decide +kernel
theorem dX2_settleOn_35 : decode cX2_settleOn 35 = .ok (.iconst 1, 1) := by decide +kernel
theorem dX2_settleOn_36 : decode cX2_settleOn 36 = .ok (.goto 4, 3) := by decide +kernel
theorem dX2_settleOn_39 : decode cX2_settleOn 39 = .ok (.iconst 0, 1) := by decide +kernel
theorem dX2_settleOn_40 : decode cX2_settleOn 40 = .ok (.bastore, 1) := by decide +kernel
theorem dX2_settleOn_41 : decode cX2_settleOn 41 = .ok (.iinc 2 1, 3) := by decide +kernel
theorem dX2_settleOn_44 : decode cX2_settleOn 44 = .ok (.goto (-42), 3) := by decide +kernel
theorem dX2_settleOn_47 : decode cX2_settleOn 47 = .ok (.return_, 1) := by decide +kernel
theorem dX2_key_0 : decode cX2_key 0 = .ok (.aload_n 0, 1) := by decide +kernel
theorem dX2_key_1 : decode cX2_key 1 = .ok (.getfield 15, 3) := by decide +kernel
theorem dX2_key_4 : decode cX2_key 4 = .ok (.iload_n 1, 1) := by decide +kernel
theorem dX2_key_5 : decode cX2_key 5 = .ok (.iaload, 1) := by decide +kernel
theorem dX2_key_6 : decode cX2_key 6 = .ok (.invokestatic 33, 3) := by decide +kernel
theorem dX2_key_9 : decode cX2_key 9 = .ok (.ireturn, 1) := by decide +kernel
theorem dX2_teller_0 : decode cX2_teller 0 = .ok (.aload_n 0, 1) := by decide +kernel
theorem dX2_teller_1 : decode cX2_teller 1 = .ok (.getfield 9, 3) := by decide +kernel
theorem dX2_teller_4 : decode cX2_teller 4 = .ok (.iload_n 1, 1) := by decide +kernel
theorem dX2_teller_5 : decode cX2_teller 5 = .ok (.iaload, 1) := by decide +kernel
theorem dX2_teller_6 : decode cX2_teller 6 = .ok (.bipush 9, 2) := by decide +kernel
theorem dX2_teller_8 : decode cX2_teller 8 = .ok (.ishr, 1) := by decide +kernel
theorem dX2_teller_9 : decode cX2_teller 9 = .ok (.ireturn, 1) := by decide +kernel
theorem dX2_rank_0 : decode cX2_rank 0 = .ok (.aload_n 0, 1) := by decide +kernel
theorem dX2_rank_1 : decode cX2_rank 1 = .ok (.iload_n 1, 1) := by decide +kernel
theorem dX2_rank_2 : decode cX2_rank 2 = .ok (.invokevirtual 37, 3) := by decide +kernel
theorem dX2_rank_5 : decode cX2_rank 5 = .ok (.iconst 3, 1) := by decide +kernel
theorem dX2_rank_6 : decode cX2_rank 6 = .ok (.ishl, 1) := by decide +kernel
theorem dX2_rank_7 : decode cX2_rank 7 = .ok (.aload_n 0, 1) := by decide +kernel
theorem dX2_rank_8 : decode cX2_rank 8 = .ok (.iload_n 1, 1) := by decide +kernel
theorem dX2_rank_9 : decode cX2_rank 9 = .ok (.invokevirtual 40, 3) := by decide +kernel
theorem dX2_rank_12 : decode cX2_rank 12 = .ok (.ior, 1) := by decide +kernel
theorem dX2_rank_13 : decode cX2_rank 13 = .ok (.bipush 7, 2) := by decide +kernel
theorem dX2_rank_15 : decode cX2_rank 15 = .ok (.ishl, 1) := by decide +kernel
theorem dX2_rank_16 : decode cX2_rank 16 = .ok (.aload_n 0, 1) := by decide +kernel
theorem dX2_rank_17 : decode cX2_rank 17 = .ok (.iload_n 1, 1) := by decide +kernel
theorem dX2_rank_18 : decode cX2_rank 18 = .ok (.invokevirtual 43, 3) := by decide +kernel
theorem dX2_rank_21 : decode cX2_rank 21 = .ok (.ior, 1) := by decide +kernel
theorem dX2_rank_22 : decode cX2_rank 22 = .ok (.ireturn, 1) := by decide +kernel
theorem dX2_life_0 : decode cX2_life 0 = .ok (.aload_n 0, 1) := by decide +kernel
theorem dX2_life_1 : decode cX2_life 1 = .ok (.getfield 9, 3) := by decide +kernel
theorem dX2_life_4 : decode cX2_life 4 = .ok (.iload_n 1, 1) := by decide +kernel
theorem dX2_life_5 : decode cX2_life 5 = .ok (.iaload, 1) := by decide +kernel
theorem dX2_life_6 : decode cX2_life 6 = .ok (.bipush 7, 2) := by decide +kernel
theorem dX2_life_8 : decode cX2_life 8 = .ok (.ishr, 1) := by decide +kernel
theorem dX2_life_9 : decode cX2_life 9 = .ok (.iconst 2, 1) := by decide +kernel
theorem dX2_life_10 : decode cX2_life 10 = .ok (.invokestatic 29, 3) := by decide +kernel
theorem dX2_life_13 : decode cX2_life 13 = .ok (.ireturn, 1) := by decide +kernel
theorem dX2_number_0 : decode cX2_number 0 = .ok (.aload_n 0, 1) := by decide +kernel
theorem dX2_number_1 : decode cX2_number 1 = .ok (.getfield 9, 3) := by decide +kernel
theorem dX2_number_4 : decode cX2_number 4 = .ok (.iload_n 1, 1) := by decide +kernel
theorem dX2_number_5 : decode cX2_number 5 = .ok (.iaload, 1) := by decide +kernel
theorem dX2_number_6 : decode cX2_number 6 = .ok (.bipush 7, 2) := by decide +kernel
theorem dX2_number_8 : decode cX2_number 8 = .ok (.invokestatic 29, 3) := by decide +kernel
theorem dX2_number_11 : decode cX2_number 11 = .ok (.ireturn, 1) := by decide +kernel
theorem dX3_init_0 : decode cX3_init 0 = .ok (.aload_n 0, 1) := by decide +kernel
theorem dX3_init_1 : decode cX3_init 1 = .ok (.invokespecial 3, 3) := by decide +kernel
theorem dX3_init_4 : decode cX3_init 4 = .ok (.aload_n 0, 1) := by decide +kernel
theorem dX3_init_5 : decode cX3_init 5 = .ok (.iconst 5, 1) := by decide +kernel
theorem dX3_init_6 : decode cX3_init 6 = .ok (.anewarray 9, 3) := by decide +kernel
theorem dX3_init_9 : decode cX3_init 9 = .ok (.putfield 11, 3) := by decide +kernel
theorem dX3_init_12 : decode cX3_init 12 = .ok (.aload_n 0, 1) := by decide +kernel
theorem dX3_init_13 : decode cX3_init 13 = .ok (.iconst 3, 1) := by decide +kernel
theorem dX3_init_14 : decode cX3_init 14 = .ok (.anewarray 15, 3) := by decide +kernel
theorem dX3_init_17 : decode cX3_init 17 = .ok (.putfield 17, 3) := by decide +kernel
theorem dX3_init_20 : decode cX3_init 20 = .ok (.aload_n 0, 1) := by decide +kernel
theorem dX3_init_21 : decode cX3_init 21 = .ok (.new 21, 3) := by decide +kernel
theorem dX3_init_24 : decode cX3_init 24 = .ok (.dup, 1) := by decide +kernel
theorem dX3_init_25 : decode cX3_init 25 = .ok (.invokespecial 23, 3) := by decide +kernel
theorem dX3_init_28 : decode cX3_init 28 = .ok (.putfield 24, 3) := by decide +kernel
theorem dX3_init_31 : decode cX3_init 31 = .ok (.aload_n 0, 1) := by decide +kernel
theorem dX3_init_32 : decode cX3_init 32 = .ok (.bipush 100, 2) := by decide +kernel
theorem dX3_init_34 : decode cX3_init 34 = .ok (.newarray .boolean, 2) := by decide +kernel
theorem dX3_init_36 : decode cX3_init 36 = .ok (.putfield 28, 3) := by decide +kernel
theorem dX3_init_39 : decode cX3_init 39 = .ok (.iconst 0, 1) := by decide +kernel
theorem dX3_init_40 : decode cX3_init 40 = .ok (.istore_n 1, 1) := by decide +kernel
theorem dX3_init_41 : decode cX3_init 41 = .ok (.iload_n 1, 1) := by decide +kernel
theorem dX3_init_42 : decode cX3_init 42 = .ok (.iconst 5, 1) := by decide +kernel
theorem dX3_init_43 : decode cX3_init 43 = .ok (.if_icmp .ge 22, 3) := by decide +kernel
theorem dX3_init_46 : decode cX3_init 46 = .ok (.aload_n 0, 1) := by decide +kernel
theorem dX3_init_47 : decode cX3_init 47 = .ok (.getfield 11, 3) := by decide +kernel
theorem dX3_init_50 : decode cX3_init 50 = .ok (.iload_n 1, 1) := by decide +kernel
theorem dX3_init_51 : decode cX3_init 51 = .ok (.new 9, 3) := by decide +kernel
theorem dX3_init_54 : decode cX3_init 54 = .ok (.dup, 1) := by decide +kernel
theorem dX3_init_55 : decode cX3_init 55 = .ok (.invokespecial 32, 3) := by decide +kernel
theorem dX3_init_58 : decode cX3_init 58 = .ok (.aastore, 1) := by decide +kernel
theorem dX3_init_59 : decode cX3_init 59 = .ok (.iinc 1 1, 3) := by decide +kernel
theorem dX3_init_62 : decode cX3_init 62 = .ok (.goto (-21), 3) := by decide +kernel
theorem dX3_init_65 : decode cX3_init 65 = .ok (.iconst 0, 1) := by decide +kernel
theorem dX3_init_66 : decode cX3_init 66 = .ok (.istore_n 1, 1) := by decide +kernel
theorem dX3_init_67 : decode cX3_init 67 = .ok (.iload_n 1, 1) := by decide +kernel
theorem dX3_init_68 : decode cX3_init 68 = .ok (.iconst 3, 1) := by decide +kernel
theorem dX3_init_69 : decode cX3_init 69 = .ok (.if_icmp .ge 22, 3) := by decide +kernel
theorem dX3_init_72 : decode cX3_init 72 = .ok (.aload_n 0, 1) := by decide +kernel
theorem dX3_init_73 : decode cX3_init 73 = .ok (.getfield 17, 3) := by decide +kernel
theorem dX3_init_76 : decode cX3_init 76 = .ok (.iload_n 1, 1) := by decide +kernel
theorem dX3_init_77 : decode cX3_init 77 = .ok (.new 15, 3) := by decide +kernel
theorem dX3_init_80 : decode cX3_init 80 = .ok (.dup, 1) := by decide +kernel
theorem dX3_init_81 : decode cX3_init 81 = .ok (.invokespecial 33, 3) := by decide +kernel
theorem dX3_init_84 : decode cX3_init 84 = .ok (.aastore, 1) := by decide +kernel
theorem dX3_init_85 : decode cX3_init 85 = .ok (.iinc 1 1, 3) := by decide +kernel
theorem dX3_init_88 : decode cX3_init 88 = .ok (.goto (-21), 3) := by decide +kernel
theorem dX3_init_91 : decode cX3_init 91 = .ok (.return_, 1) := by decide +kernel
theorem dX3_mark_0 : decode cX3_mark 0 = .ok (.iload_n 1, 1) := by decide +kernel
theorem dX3_mark_1 : decode cX3_mark 1 = .ok (.invokestatic 34, 3) := by decide +kernel
theorem dX3_mark_4 : decode cX3_mark 4 = .ok (.aload_n 0, 1) := by decide +kernel
theorem dX3_mark_5 : decode cX3_mark 5 = .ok (.getfield 11, 3) := by decide +kernel
theorem dX3_mark_8 : decode cX3_mark 8 = .ok (.iload_n 1, 1) := by decide +kernel
theorem dX3_mark_9 : decode cX3_mark 9 = .ok (.aaload, 1) := by decide +kernel
theorem dX3_mark_10 : decode cX3_mark 10 = .ok (.astore 4, 2) := by decide +kernel
theorem dX3_mark_12 : decode cX3_mark 12 = .ok (.aload 4, 2) := by decide +kernel
theorem dX3_mark_14 : decode cX3_mark 14 = .ok (.getfield 38, 3) := by decide +kernel
theorem dX3_mark_17 : decode cX3_mark 17 = .ok (.bipush 6, 2) := by decide +kernel
theorem dX3_mark_19 : decode cX3_mark 19 = .ok (.if_icmp .lt 13, 3) := by decide +kernel
theorem dX3_mark_22 : decode cX3_mark 22 = .ok (.new 42, 3) := by decide +kernel
theorem dX3_mark_25 : decode cX3_mark 25 = .ok (.dup, 1) := by decide +kernel
theorem dX3_mark_26 : decode cX3_mark 26 = .ok (.ldc 44, 2) := by decide +kernel
theorem dX3_mark_28 : decode cX3_mark 28 = .ok (.invokespecial 46, 3) := by decide +kernel
theorem dX3_mark_31 : decode cX3_mark 31 = .ok (.athrow, 1) := by decide +kernel
theorem dX3_mark_32 : decode cX3_mark 32 = .ok (.iload_n 2, 1) := by decide +kernel
theorem dX3_mark_33 : decode cX3_mark 33 = .ok (.invokestatic 49, 3) := by decide +kernel
theorem dX3_mark_36 : decode cX3_mark 36 = .ok (.iload_n 3, 1) := by decide +kernel
theorem dX3_mark_37 : decode cX3_mark 37 = .ok (.invokestatic 49, 3) := by decide +kernel
theorem dX3_mark_40 : decode cX3_mark 40 = .ok (.aload 4, 2) := by decide +kernel
theorem dX3_mark_42 : decode cX3_mark 42 = .ok (.iload_n 2, 1) := by decide +kernel
theorem dX3_mark_43 : decode cX3_mark 43 = .ok (.iload_n 3, 1) := by decide +kernel
theorem dX3_mark_44 : decode cX3_mark 44 = .ok (.invokevirtual 52, 3) := by decide +kernel
theorem dX3_mark_47 : decode cX3_mark 47 = .ok (.ifCond .ne 13, 3) := by decide +kernel
theorem dX3_mark_50 : decode cX3_mark 50 = .ok (.new 56, 3) := by decide +kernel
theorem dX3_mark_53 : decode cX3_mark 53 = .ok (.dup, 1) := by decide +kernel
theorem dX3_mark_54 : decode cX3_mark 54 = .ok (.ldc 58, 2) := by decide +kernel
theorem dX3_mark_56 : decode cX3_mark 56 = .ok (.invokespecial 60, 3) := by decide +kernel
theorem dX3_mark_59 : decode cX3_mark 59 = .ok (.athrow, 1) := by decide +kernel
theorem dX3_mark_60 : decode cX3_mark 60 = .ok (.aload 4, 2) := by decide +kernel
theorem dX3_mark_62 : decode cX3_mark 62 = .ok (.iload_n 2, 1) := by decide +kernel
theorem dX3_mark_63 : decode cX3_mark 63 = .ok (.iload_n 3, 1) := by decide +kernel
theorem dX3_mark_64 : decode cX3_mark 64 = .ok (.invokevirtual 61, 3) := by decide +kernel
theorem dX3_mark_67 : decode cX3_mark 67 = .ok (.aload 4, 2) := by decide +kernel
theorem dX3_mark_69 : decode cX3_mark 69 = .ok (.getfield 38, 3) := by decide +kernel
theorem dX3_mark_72 : decode cX3_mark 72 = .ok (.ireturn, 1) := by decide +kernel
theorem dX3_needTeller_0 : decode cX3_needTeller 0 = .ok (.iload_n 0, 1) := by decide +kernel
theorem dX3_needTeller_1 : decode cX3_needTeller 1 = .ok (.ifCond .lt 8, 3) := by decide +kernel
theorem dX3_needTeller_4 : decode cX3_needTeller 4 = .ok (.iload_n 0, 1) := by decide +kernel
theorem dX3_needTeller_5 : decode cX3_needTeller 5 = .ok (.iconst 5, 1) := by decide +kernel
theorem dX3_needTeller_6 : decode cX3_needTeller 6 = .ok (.if_icmp .lt 13, 3) := by decide +kernel
theorem dX3_needTeller_9 : decode cX3_needTeller 9 = .ok (.new 113, 3) := by decide +kernel
theorem dX3_needTeller_12 : decode cX3_needTeller 12 = .ok (.dup, 1) := by decide +kernel
theorem dX3_needTeller_13 : decode cX3_needTeller 13 = .ok (.ldc 190, 2) := by decide +kernel
theorem dX3_needTeller_15 : decode cX3_needTeller 15 = .ok (.invokespecial 117, 3) := by decide +kernel
theorem dX3_needTeller_18 : decode cX3_needTeller 18 = .ok (.athrow, 1) := by decide +kernel
theorem dX3_needTeller_19 : decode cX3_needTeller 19 = .ok (.return_, 1) := by decide +kernel
theorem dX3_needTime_0 : decode cX3_needTime 0 = .ok (.iload_n 0, 1) := by decide +kernel
theorem dX3_needTime_1 : decode cX3_needTime 1 = .ok (.ifCond .lt 9, 3) := by decide +kernel
theorem dX3_needTime_4 : decode cX3_needTime 4 = .ok (.iload_n 0, 1) := by decide +kernel
theorem dX3_needTime_5 : decode cX3_needTime 5 = .ok (.ldc 196, 2) := by decide +kernel
theorem dX3_needTime_7 : decode cX3_needTime 7 = .ok (.if_icmp .le 13, 3) := by decide +kernel
theorem dX3_needTime_10 : decode cX3_needTime 10 = .ok (.new 56, 3) := by decide +kernel
theorem dX3_needTime_13 : decode cX3_needTime 13 = .ok (.dup, 1) := by decide +kernel
theorem dX3_needTime_14 : decode cX3_needTime 14 = .ok (.ldc 197, 2) := by decide +kernel
theorem dX3_needTime_16 : decode cX3_needTime 16 = .ok (.invokespecial 60, 3) := by decide +kernel
theorem dX3_needTime_19 : decode cX3_needTime 19 = .ok (.athrow, 1) := by decide +kernel
theorem dX3_needTime_20 : decode cX3_needTime 20 = .ok (.return_, 1) := by decide +kernel
theorem dX3_real_0 : decode cX3_real 0 = .ok (.iload_n 1, 1) := by decide +kernel
theorem dX3_real_1 : decode cX3_real 1 = .ok (.invokestatic 34, 3) := by decide +kernel
theorem dX3_real_4 : decode cX3_real 4 = .ok (.iload_n 2, 1) := by decide +kernel
theorem dX3_real_5 : decode cX3_real 5 = .ok (.invokestatic 49, 3) := by decide +kernel
theorem dX3_real_8 : decode cX3_real 8 = .ok (.aload_n 0, 1) := by decide +kernel
theorem dX3_real_9 : decode cX3_real 9 = .ok (.getfield 11, 3) := by decide +kernel
theorem dX3_real_12 : decode cX3_real 12 = .ok (.iload_n 1, 1) := by decide +kernel
theorem dX3_real_13 : decode cX3_real 13 = .ok (.aaload, 1) := by decide +kernel
theorem dX3_real_14 : decode cX3_real 14 = .ok (.iload_n 2, 1) := by decide +kernel
theorem dX3_real_15 : decode cX3_real 15 = .ok (.invokevirtual 65, 3) := by decide +kernel
theorem dX3_real_18 : decode cX3_real 18 = .ok (.ireturn, 1) := by decide +kernel
theorem dX3_tell_0 : decode cX3_tell 0 = .ok (.iload_n 1, 1) := by decide +kernel
theorem dX3_tell_1 : decode cX3_tell 1 = .ok (.invokestatic 69, 3) := by decide +kernel
theorem dX3_tell_4 : decode cX3_tell 4 = .ok (.iload_n 2, 1) := by decide +kernel
theorem dX3_tell_5 : decode cX3_tell 5 = .ok (.invokestatic 34, 3) := by decide +kernel
theorem dX3_tell_8 : decode cX3_tell 8 = .ok (.lload_n 3, 1) := by decide +kernel
theorem dX3_tell_9 : decode cX3_tell 9 = .ok (.invokestatic 72, 3) := by decide +kernel
theorem dX3_tell_12 : decode cX3_tell 12 = .ok (.lload_n 3, 1) := by decide +kernel
theorem dX3_tell_13 : decode cX3_tell 13 = .ok (.l2i, 1) := by decide +kernel
theorem dX3_tell_14 : decode cX3_tell 14 = .ok (.istore 6, 2) := by decide +kernel
theorem dX3_tell_16 : decode cX3_tell 16 = .ok (.iload_n 2, 1) := by decide +kernel
theorem dX3_tell_17 : decode cX3_tell 17 = .ok (.aload_n 0, 1) := by decide +kernel
theorem dX3_tell_18 : decode cX3_tell 18 = .ok (.getfield 11, 3) := by decide +kernel
theorem dX3_tell_21 : decode cX3_tell 21 = .ok (.iload_n 2, 1) := by decide +kernel
theorem dX3_tell_22 : decode cX3_tell 22 = .ok (.aaload, 1) := by decide +kernel
theorem dX3_tell_23 : decode cX3_tell 23 = .ok (.getfield 76, 3) := by decide +kernel
theorem dX3_tell_26 : decode cX3_tell 26 = .ok (.iload 6, 2) := by decide +kernel
theorem dX3_tell_28 : decode cX3_tell 28 = .ok (.invokestatic 79, 3) := by decide +kernel
theorem dX3_tell_31 : decode cX3_tell 31 = .ok (.invokestatic 82, 3) := by decide +kernel
theorem dX3_tell_34 : decode cX3_tell 34 = .ok (.istore 7, 2) := by decide +kernel
theorem dX3_tell_36 : decode cX3_tell 36 = .ok (.aload_n 0, 1) := by decide +kernel
theorem dX3_tell_37 : decode cX3_tell 37 = .ok (.getfield 24, 3) := by decide +kernel
theorem dX3_tell_40 : decode cX3_tell 40 = .ok (.iload 7, 2) := by decide +kernel
theorem dX3_tell_42 : decode cX3_tell 42 = .ok (.iload 6, 2) := by decide +kernel
theorem dX3_tell_44 : decode cX3_tell 44 = .ok (.iload 5, 2) := by decide +kernel
theorem dX3_tell_46 : decode cX3_tell 46 = .ok (.invokevirtual 86, 3) := by decide +kernel
theorem dX3_tell_49 : decode cX3_tell 49 = .ok (.istore 8, 2) := by decide +kernel
theorem dX3_tell_51 : decode cX3_tell 51 = .ok (.iload 8, 2) := by decide +kernel
theorem dX3_tell_53 : decode cX3_tell 53 = .ok (.iconst (-1), 1) := by decide +kernel
theorem dX3_tell_54 : decode cX3_tell 54 = .ok (.if_icmp .ne 25, 3) := by decide +kernel
theorem dX3_tell_57 : decode cX3_tell 57 = .ok (.aload_n 0, 1) := by decide +kernel
theorem dX3_tell_58 : decode cX3_tell 58 = .ok (.getfield 24, 3) := by decide +kernel
theorem dX3_tell_61 : decode cX3_tell 61 = .ok (.getfield 89, 3) := by decide +kernel
theorem dX3_tell_64 : decode cX3_tell 64 = .ok (.bipush 120, 2) := by decide +kernel
theorem dX3_tell_66 : decode cX3_tell 66 = .ok (.if_icmp .lt 13, 3) := by decide +kernel
theorem dX3_tell_69 : decode cX3_tell 69 = .ok (.new 92, 3) := by decide +kernel
theorem dX3_tell_72 : decode cX3_tell 72 = .ok (.dup, 1) := by decide +kernel
theorem dX3_tell_73 : decode cX3_tell 73 = .ok (.ldc 94, 2) := by decide +kernel
theorem dX3_tell_75 : decode cX3_tell 75 = .ok (.invokespecial 96, 3) := by decide +kernel
theorem dX3_tell_78 : decode cX3_tell 78 = .ok (.athrow, 1) := by decide +kernel
theorem dX3_tell_79 : decode cX3_tell 79 = .ok (.aload_n 0, 1) := by decide +kernel
theorem dX3_tell_80 : decode cX3_tell 80 = .ok (.getfield 17, 3) := by decide +kernel
theorem dX3_tell_83 : decode cX3_tell 83 = .ok (.iload_n 1, 1) := by decide +kernel
theorem dX3_tell_84 : decode cX3_tell 84 = .ok (.aaload, 1) := by decide +kernel
theorem dX3_tell_85 : decode cX3_tell 85 = .ok (.astore 9, 2) := by decide +kernel
theorem dX3_tell_87 : decode cX3_tell 87 = .ok (.iload 8, 2) := by decide +kernel
theorem dX3_tell_89 : decode cX3_tell 89 = .ok (.iconst (-1), 1) := by decide +kernel
theorem dX3_tell_90 : decode cX3_tell 90 = .ok (.if_icmp .eq 15, 3) := by decide +kernel
theorem dX3_tell_93 : decode cX3_tell 93 = .ok (.aload 9, 2) := by decide +kernel
theorem dX3_tell_95 : decode cX3_tell 95 = .ok (.iload 8, 2) := by decide +kernel
theorem dX3_tell_97 : decode cX3_tell 97 = .ok (.invokevirtual 97, 3) := by decide +kernel
theorem dX3_tell_100 : decode cX3_tell 100 = .ok (.ifCond .eq 5, 3) := by decide +kernel
theorem dX3_tell_103 : decode cX3_tell 103 = .ok (.iconst 1, 1) := by decide +kernel
theorem dX3_tell_104 : decode cX3_tell 104 = .ok (.ireturn, 1) := by decide +kernel
theorem dX3_tell_105 : decode cX3_tell 105 = .ok (.iload 8, 2) := by decide +kernel
theorem dX3_tell_107 : decode cX3_tell 107 = .ok (.iconst (-1), 1) := by decide +kernel
theorem dX3_tell_108 : decode cX3_tell 108 = .ok (.if_icmp .ne 18, 3) := by decide +kernel
theorem dX3_tell_111 : decode cX3_tell 111 = .ok (.aload_n 0, 1) := by decide +kernel
theorem dX3_tell_112 : decode cX3_tell 112 = .ok (.getfield 24, 3) := by decide +kernel
theorem dX3_tell_115 : decode cX3_tell 115 = .ok (.iload 7, 2) := by decide +kernel
theorem dX3_tell_117 : decode cX3_tell 117 = .ok (.iload 6, 2) := by decide +kernel
theorem dX3_tell_119 : decode cX3_tell 119 = .ok (.iload 5, 2) := by decide +kernel
theorem dX3_tell_121 : decode cX3_tell 121 = .ok (.invokevirtual 101, 3) := by decide +kernel
theorem dX3_tell_124 : decode cX3_tell 124 = .ok (.istore 8, 2) := by decide +kernel
theorem dX3_tell_126 : decode cX3_tell 126 = .ok (.aload_n 0, 1) := by decide +kernel
theorem dX3_tell_127 : decode cX3_tell 127 = .ok (.aload 9, 2) := by decide +kernel
theorem dX3_tell_129 : decode cX3_tell 129 = .ok (.iload 8, 2) := by decide +kernel
theorem dX3_tell_131 : decode cX3_tell 131 = .ok (.invokevirtual 104, 3) := by decide +kernel
theorem dX3_tell_134 : decode cX3_tell 134 = .ok (.ifCond .eq 7, 3) := by decide +kernel
theorem dX3_tell_137 : decode cX3_tell 137 = .ok (.iconst 2, 1) := by decide +kernel
theorem dX3_tell_138 : decode cX3_tell 138 = .ok (.goto 4, 3) := by decide +kernel
theorem dX3_tell_141 : decode cX3_tell 141 = .ok (.iconst 0, 1) := by decide +kernel
theorem dX3_tell_142 : decode cX3_tell 142 = .ok (.istore 10, 2) := by decide +kernel
theorem dX3_tell_144 : decode cX3_tell 144 = .ok (.aload 9, 2) := by decide +kernel
theorem dX3_tell_146 : decode cX3_tell 146 = .ok (.iload 8, 2) := by decide +kernel
theorem dX3_tell_148 : decode cX3_tell 148 = .ok (.invokevirtual 108, 3) := by decide +kernel
theorem dX3_tell_151 : decode cX3_tell 151 = .ok (.iload 10, 2) := by decide +kernel
theorem dX3_tell_153 : decode cX3_tell 153 = .ok (.ireturn, 1) := by decide +kernel
theorem dX3_needDesk_0 : decode cX3_needDesk 0 = .ok (.iload_n 0, 1) := by decide +kernel
theorem dX3_needDesk_1 : decode cX3_needDesk 1 = .ok (.ifCond .lt 8, 3) := by decide +kernel
theorem dX3_needDesk_4 : decode cX3_needDesk 4 = .ok (.iload_n 0, 1) := by decide +kernel
theorem dX3_needDesk_5 : decode cX3_needDesk 5 = .ok (.iconst 3, 1) := by decide +kernel
theorem dX3_needDesk_6 : decode cX3_needDesk 6 = .ok (.if_icmp .lt 13, 3) := by decide +kernel
theorem dX3_needDesk_9 : decode cX3_needDesk 9 = .ok (.new 113, 3) := by decide +kernel
theorem dX3_needDesk_12 : decode cX3_needDesk 12 = .ok (.dup, 1) := by decide +kernel
theorem dX3_needDesk_13 : decode cX3_needDesk 13 = .ok (.ldc 192, 2) := by decide +kernel
theorem dX3_needDesk_15 : decode cX3_needDesk 15 = .ok (.invokespecial 117, 3) := by decide +kernel
theorem dX3_needDesk_18 : decode cX3_needDesk 18 = .ok (.athrow, 1) := by decide +kernel
theorem dX3_needDesk_19 : decode cX3_needDesk 19 = .ok (.return_, 1) := by decide +kernel
theorem dX3_needTold_0 : decode cX3_needTold 0 = .ok (.lload_n 0, 1) := by decide +kernel
theorem dX3_needTold_1 : decode cX3_needTold 1 = .ok (.bipush 30, 2) := by decide +kernel
theorem dX3_needTold_3 : decode cX3_needTold 3 = .ok (.lushr, 1) := by decide +kernel
theorem dX3_needTold_4 : decode cX3_needTold 4 = .ok (.lconst 0, 1) := by decide +kernel
theorem dX3_needTold_5 : decode cX3_needTold 5 = .ok (.lcmp, 1) := by decide +kernel
theorem dX3_needTold_6 : decode cX3_needTold 6 = .ok (.ifCond .eq 13, 3) := by decide +kernel
theorem dX3_needTold_9 : decode cX3_needTold 9 = .ok (.new 56, 3) := by decide +kernel
theorem dX3_needTold_12 : decode cX3_needTold 12 = .ok (.dup, 1) := by decide +kernel
theorem dX3_needTold_13 : decode cX3_needTold 13 = .ok (.ldc 199, 2) := by decide +kernel
theorem dX3_needTold_15 : decode cX3_needTold 15 = .ok (.invokespecial 60, 3) := by decide +kernel
theorem dX3_needTold_18 : decode cX3_needTold 18 = .ok (.athrow, 1) := by decide +kernel
theorem dX3_needTold_19 : decode cX3_needTold 19 = .ok (.lload_n 0, 1) := by decide +kernel
theorem dX3_needTold_20 : decode cX3_needTold 20 = .ok (.l2i, 1) := by decide +kernel
theorem dX3_needTold_21 : decode cX3_needTold 21 = .ok (.invokestatic 201, 3) := by decide +kernel
theorem dX3_needTold_24 : decode cX3_needTold 24 = .ok (.invokestatic 49, 3) := by decide +kernel
theorem dX3_needTold_27 : decode cX3_needTold 27 = .ok (.lload_n 0, 1) := by decide +kernel
theorem dX3_needTold_28 : decode cX3_needTold 28 = .ok (.l2i, 1) := by decide +kernel
theorem dX3_needTold_29 : decode cX3_needTold 29 = .ok (.invokestatic 79, 3) := by decide +kernel
theorem dX3_needTold_32 : decode cX3_needTold 32 = .ok (.bipush 100, 2) := by decide +kernel
theorem dX3_needTold_34 : decode cX3_needTold 34 = .ok (.if_icmp .lt 13, 3) := by decide +kernel
theorem dX3_needTold_37 : decode cX3_needTold 37 = .ok (.new 56, 3) := by decide +kernel
theorem dX3_needTold_40 : decode cX3_needTold 40 = .ok (.dup, 1) := by decide +kernel
theorem dX3_needTold_41 : decode cX3_needTold 41 = .ok (.ldc 204, 2) := by decide +kernel
theorem dX3_needTold_43 : decode cX3_needTold 43 = .ok (.invokespecial 60, 3) := by decide +kernel
theorem dX3_needTold_46 : decode cX3_needTold 46 = .ok (.athrow, 1) := by decide +kernel
theorem dX3_needTold_47 : decode cX3_needTold 47 = .ok (.return_, 1) := by decide +kernel
theorem dX3_timeIn_0 : decode cX3_timeIn 0 = .ok (.iload_n 0, 1) := by decide +kernel
theorem dX3_timeIn_1 : decode cX3_timeIn 1 = .ok (.bipush 20, 2) := by decide +kernel
theorem dX3_timeIn_3 : decode cX3_timeIn 3 = .ok (.invokestatic 206, 3) := by decide +kernel
theorem dX3_timeIn_6 : decode cX3_timeIn 6 = .ok (.ireturn, 1) := by decide +kernel
theorem dX3_lowBits_0 : decode cX3_lowBits 0 = .ok (.iload_n 0, 1) := by decide +kernel
theorem dX3_lowBits_1 : decode cX3_lowBits 1 = .ok (.iconst 1, 1) := by decide +kernel
theorem dX3_lowBits_2 : decode cX3_lowBits 2 = .ok (.iload_n 1, 1) := by decide +kernel
theorem dX3_lowBits_3 : decode cX3_lowBits 3 = .ok (.ishl, 1) := by decide +kernel
theorem dX3_lowBits_4 : decode cX3_lowBits 4 = .ok (.iconst 1, 1) := by decide +kernel
theorem dX3_lowBits_5 : decode cX3_lowBits 5 = .ok (.isub, 1) := by decide +kernel
theorem dX3_lowBits_6 : decode cX3_lowBits 6 = .ok (.iand, 1) := by decide +kernel
theorem dX3_lowBits_7 : decode cX3_lowBits 7 = .ok (.ireturn, 1) := by decide +kernel
theorem dX3_numberIn_0 : decode cX3_numberIn 0 = .ok (.iload_n 0, 1) := by decide +kernel
theorem dX3_numberIn_1 : decode cX3_numberIn 1 = .ok (.bipush 23, 2) := by decide +kernel
theorem dX3_numberIn_3 : decode cX3_numberIn 3 = .ok (.ishr, 1) := by decide +kernel
theorem dX3_numberIn_4 : decode cX3_numberIn 4 = .ok (.bipush 7, 2) := by decide +kernel
theorem dX3_numberIn_6 : decode cX3_numberIn 6 = .ok (.invokestatic 206, 3) := by decide +kernel
theorem dX3_numberIn_9 : decode cX3_numberIn 9 = .ok (.ireturn, 1) := by decide +kernel
theorem dX3_nameOf_0 : decode cX3_nameOf 0 = .ok (.iload_n 0, 1) := by decide +kernel
theorem dX3_nameOf_1 : decode cX3_nameOf 1 = .ok (.iconst 2, 1) := by decide +kernel
theorem dX3_nameOf_2 : decode cX3_nameOf 2 = .ok (.ishl, 1) := by decide +kernel
theorem dX3_nameOf_3 : decode cX3_nameOf 3 = .ok (.iload_n 1, 1) := by decide +kernel
theorem dX3_nameOf_4 : decode cX3_nameOf 4 = .ok (.ior, 1) := by decide +kernel
theorem dX3_nameOf_5 : decode cX3_nameOf 5 = .ok (.bipush 7, 2) := by decide +kernel
theorem dX3_nameOf_7 : decode cX3_nameOf 7 = .ok (.ishl, 1) := by decide +kernel
theorem dX3_nameOf_8 : decode cX3_nameOf 8 = .ok (.iload_n 2, 1) := by decide +kernel
theorem dX3_nameOf_9 : decode cX3_nameOf 9 = .ok (.ior, 1) := by decide +kernel
theorem dX3_nameOf_10 : decode cX3_nameOf 10 = .ok (.ireturn, 1) := by decide +kernel
theorem dX3_hasRival_0 : decode cX3_hasRival 0 = .ok (.iconst 0, 1) := by decide +kernel
theorem dX3_hasRival_1 : decode cX3_hasRival 1 = .ok (.istore_n 3, 1) := by decide +kernel
theorem dX3_hasRival_2 : decode cX3_hasRival 2 = .ok (.iload_n 3, 1) := by decide +kernel
theorem dX3_hasRival_3 : decode cX3_hasRival 3 = .ok (.aload_n 0, 1) := by decide +kernel
theorem dX3_hasRival_4 : decode cX3_hasRival 4 = .ok (.getfield 24, 3) := by decide +kernel
theorem dX3_hasRival_7 : decode cX3_hasRival 7 = .ok (.getfield 89, 3) := by decide +kernel
theorem dX3_hasRival_10 : decode cX3_hasRival 10 = .ok (.if_icmp .ge 31, 3) := by decide +kernel
theorem dX3_hasRival_13 : decode cX3_hasRival 13 = .ok (.aload_n 0, 1) := by decide +kernel
theorem dX3_hasRival_14 : decode cX3_hasRival 14 = .ok (.getfield 24, 3) := by decide +kernel
theorem dX3_hasRival_17 : decode cX3_hasRival 17 = .ok (.iload_n 2, 1) := by decide +kernel
theorem dX3_hasRival_18 : decode cX3_hasRival 18 = .ok (.iload_n 3, 1) := by decide +kernel
theorem dX3_hasRival_19 : decode cX3_hasRival 19 = .ok (.invokevirtual 209, 3) := by decide +kernel
theorem dX3_hasRival_22 : decode cX3_hasRival 22 = .ok (.ifCond .eq 13, 3) := by decide +kernel
theorem dX3_hasRival_25 : decode cX3_hasRival 25 = .ok (.aload_n 1, 1) := by decide +kernel
theorem dX3_hasRival_26 : decode cX3_hasRival 26 = .ok (.iload_n 3, 1) := by decide +kernel
theorem dX3_hasRival_27 : decode cX3_hasRival 27 = .ok (.invokevirtual 97, 3) := by decide +kernel
theorem dX3_hasRival_30 : decode cX3_hasRival 30 = .ok (.ifCond .eq 5, 3) := by decide +kernel
theorem dX3_hasRival_33 : decode cX3_hasRival 33 = .ok (.iconst 1, 1) := by decide +kernel
theorem dX3_hasRival_34 : decode cX3_hasRival 34 = .ok (.ireturn, 1) := by decide +kernel
theorem dX3_hasRival_35 : decode cX3_hasRival 35 = .ok (.iinc 3 1, 3) := by decide +kernel
theorem dX3_hasRival_38 : decode cX3_hasRival 38 = .ok (.goto (-36), 3) := by decide +kernel
theorem dX3_hasRival_41 : decode cX3_hasRival 41 = .ok (.iconst 0, 1) := by decide +kernel
theorem dX3_hasRival_42 : decode cX3_hasRival 42 = .ok (.ireturn, 1) := by decide +kernel
theorem dX3_restart_0 : decode cX3_restart 0 = .ok (.iload_n 1, 1) := by decide +kernel
theorem dX3_restart_1 : decode cX3_restart 1 = .ok (.invokestatic 34, 3) := by decide +kernel
theorem dX3_restart_4 : decode cX3_restart 4 = .ok (.aload_n 0, 1) := by decide +kernel
theorem dX3_restart_5 : decode cX3_restart 5 = .ok (.getfield 11, 3) := by decide +kernel
theorem dX3_restart_8 : decode cX3_restart 8 = .ok (.iload_n 1, 1) := by decide +kernel
theorem dX3_restart_9 : decode cX3_restart 9 = .ok (.aaload, 1) := by decide +kernel
theorem dX3_restart_10 : decode cX3_restart 10 = .ok (.astore_n 2, 1) := by decide +kernel
theorem dX3_restart_11 : decode cX3_restart 11 = .ok (.aload_n 2, 1) := by decide +kernel
theorem dX3_restart_12 : decode cX3_restart 12 = .ok (.getfield 76, 3) := by decide +kernel
theorem dX3_restart_15 : decode cX3_restart 15 = .ok (.iconst 3, 1) := by decide +kernel
theorem dX3_restart_16 : decode cX3_restart 16 = .ok (.if_icmp .lt 13, 3) := by decide +kernel
theorem dX3_restart_19 : decode cX3_restart 19 = .ok (.new 42, 3) := by decide +kernel
theorem dX3_restart_22 : decode cX3_restart 22 = .ok (.dup, 1) := by decide +kernel
theorem dX3_restart_23 : decode cX3_restart 23 = .ok (.ldc 111, 2) := by decide +kernel
theorem dX3_restart_25 : decode cX3_restart 25 = .ok (.invokespecial 46, 3) := by decide +kernel
theorem dX3_restart_28 : decode cX3_restart 28 = .ok (.athrow, 1) := by decide +kernel
theorem dX3_restart_29 : decode cX3_restart 29 = .ok (.aload_n 2, 1) := by decide +kernel
theorem dX3_restart_30 : decode cX3_restart 30 = .ok (.dup, 1) := by decide +kernel
theorem dX3_restart_31 : decode cX3_restart 31 = .ok (.getfield 76, 3) := by decide +kernel
theorem dX3_restart_34 : decode cX3_restart 34 = .ok (.iconst 1, 1) := by decide +kernel
theorem dX3_restart_35 : decode cX3_restart 35 = .ok (.iadd, 1) := by decide +kernel
theorem dX3_restart_36 : decode cX3_restart 36 = .ok (.putfield 76, 3) := by decide +kernel
theorem dX3_restart_39 : decode cX3_restart 39 = .ok (.aload_n 2, 1) := by decide +kernel
theorem dX3_restart_40 : decode cX3_restart 40 = .ok (.getfield 76, 3) := by decide +kernel
theorem dX3_restart_43 : decode cX3_restart 43 = .ok (.ireturn, 1) := by decide +kernel
theorem dX3_join_0 : decode cX3_join 0 = .ok (.iload_n 1, 1) := by decide +kernel
theorem dX3_join_1 : decode cX3_join 1 = .ok (.invokestatic 69, 3) := by decide +kernel
theorem dX3_join_4 : decode cX3_join 4 = .ok (.iload_n 2, 1) := by decide +kernel
theorem dX3_join_5 : decode cX3_join 5 = .ok (.invokestatic 69, 3) := by decide +kernel
theorem dX3_join_8 : decode cX3_join 8 = .ok (.iload_n 1, 1) := by decide +kernel
theorem dX3_join_9 : decode cX3_join 9 = .ok (.iload_n 2, 1) := by decide +kernel
theorem dX3_join_10 : decode cX3_join 10 = .ok (.if_icmp .ne 13, 3) := by decide +kernel
theorem dX3_join_13 : decode cX3_join 13 = .ok (.new 113, 3) := by decide +kernel
theorem dX3_join_16 : decode cX3_join 16 = .ok (.dup, 1) := by decide +kernel
theorem dX3_join_17 : decode cX3_join 17 = .ok (.ldc 115, 2) := by decide +kernel
theorem dX3_join_19 : decode cX3_join 19 = .ok (.invokespecial 117, 3) := by decide +kernel
theorem dX3_join_22 : decode cX3_join 22 = .ok (.athrow, 1) := by decide +kernel
theorem dX3_join_23 : decode cX3_join 23 = .ok (.aload_n 0, 1) := by decide +kernel
theorem dX3_join_24 : decode cX3_join 24 = .ok (.getfield 17, 3) := by decide +kernel
theorem dX3_join_27 : decode cX3_join 27 = .ok (.iload_n 1, 1) := by decide +kernel
theorem dX3_join_28 : decode cX3_join 28 = .ok (.aaload, 1) := by decide +kernel
theorem dX3_join_29 : decode cX3_join 29 = .ok (.astore_n 3, 1) := by decide +kernel
theorem dX3_join_30 : decode cX3_join 30 = .ok (.aload_n 0, 1) := by decide +kernel
theorem dX3_join_31 : decode cX3_join 31 = .ok (.getfield 17, 3) := by decide +kernel
theorem dX3_join_34 : decode cX3_join 34 = .ok (.iload_n 2, 1) := by decide +kernel
theorem dX3_join_35 : decode cX3_join 35 = .ok (.aaload, 1) := by decide +kernel
theorem dX3_join_36 : decode cX3_join 36 = .ok (.astore 4, 2) := by decide +kernel
theorem dX3_join_38 : decode cX3_join 38 = .ok (.iconst 0, 1) := by decide +kernel
theorem dX3_join_39 : decode cX3_join 39 = .ok (.istore 5, 2) := by decide +kernel
theorem dX3_join_41 : decode cX3_join 41 = .ok (.iconst 0, 1) := by decide +kernel
theorem dX3_join_42 : decode cX3_join 42 = .ok (.istore 6, 2) := by decide +kernel
theorem dX3_join_44 : decode cX3_join 44 = .ok (.iload 6, 2) := by decide +kernel
theorem dX3_join_46 : decode cX3_join 46 = .ok (.aload_n 0, 1) := by decide +kernel
theorem dX3_join_47 : decode cX3_join 47 = .ok (.getfield 24, 3) := by decide +kernel
theorem dX3_join_50 : decode cX3_join 50 = .ok (.getfield 89, 3) := by decide +kernel
theorem dX3_join_53 : decode cX3_join 53 = .ok (.if_icmp .ge 37, 3) := by decide +kernel
theorem dX3_join_56 : decode cX3_join 56 = .ok (.aload 4, 2) := by decide +kernel
theorem dX3_join_58 : decode cX3_join 58 = .ok (.iload 6, 2) := by decide +kernel
theorem dX3_join_60 : decode cX3_join 60 = .ok (.invokevirtual 118, 3) := by decide +kernel
theorem dX3_join_63 : decode cX3_join 63 = .ok (.ifCond .eq 21, 3) := by decide +kernel
theorem dX3_join_66 : decode cX3_join 66 = .ok (.aload_n 3, 1) := by decide +kernel
theorem dX3_join_67 : decode cX3_join 67 = .ok (.iload 6, 2) := by decide +kernel
theorem dX3_join_69 : decode cX3_join 69 = .ok (.invokevirtual 97, 3) := by decide +kernel
theorem dX3_join_72 : decode cX3_join 72 = .ok (.ifCond .ne 12, 3) := by decide +kernel
theorem dX3_join_75 : decode cX3_join 75 = .ok (.aload_n 3, 1) := by decide +kernel
theorem dX3_join_76 : decode cX3_join 76 = .ok (.iload 6, 2) := by decide +kernel
theorem dX3_join_78 : decode cX3_join 78 = .ok (.invokevirtual 108, 3) := by decide +kernel
theorem dX3_join_81 : decode cX3_join 81 = .ok (.iinc 5 1, 3) := by decide +kernel
theorem dX3_join_84 : decode cX3_join 84 = .ok (.iinc 6 1, 3) := by decide +kernel
theorem dX3_join_87 : decode cX3_join 87 = .ok (.goto (-43), 3) := by decide +kernel
theorem dX3_join_90 : decode cX3_join 90 = .ok (.iload 5, 2) := by decide +kernel
theorem dX3_join_92 : decode cX3_join 92 = .ok (.ireturn, 1) := by decide +kernel
theorem dX3_batch_0 : decode cX3_batch 0 = .ok (.iload_n 1, 1) := by decide +kernel
theorem dX3_batch_1 : decode cX3_batch 1 = .ok (.invokestatic 69, 3) := by decide +kernel
theorem dX3_batch_4 : decode cX3_batch 4 = .ok (.aload_n 0, 1) := by decide +kernel
theorem dX3_batch_5 : decode cX3_batch 5 = .ok (.getfield 17, 3) := by decide +kernel
theorem dX3_batch_8 : decode cX3_batch 8 = .ok (.iload_n 1, 1) := by decide +kernel
theorem dX3_batch_9 : decode cX3_batch 9 = .ok (.aaload, 1) := by decide +kernel
theorem dX3_batch_10 : decode cX3_batch 10 = .ok (.astore_n 3, 1) := by decide +kernel
theorem dX3_batch_11 : decode cX3_batch 11 = .ok (.aload_n 3, 1) := by decide +kernel
theorem dX3_batch_12 : decode cX3_batch 12 = .ok (.getfield 121, 3) := by decide +kernel
theorem dX3_batch_15 : decode cX3_batch 15 = .ok (.iload_n 2, 1) := by decide +kernel
theorem dX3_batch_16 : decode cX3_batch 16 = .ok (.if_icmp .ne 13, 3) := by decide +kernel
theorem dX3_batch_19 : decode cX3_batch 19 = .ok (.new 42, 3) := by decide +kernel
theorem dX3_batch_22 : decode cX3_batch 22 = .ok (.dup, 1) := by decide +kernel
theorem dX3_batch_23 : decode cX3_batch 23 = .ok (.ldc 125, 2) := by decide +kernel
theorem dX3_batch_25 : decode cX3_batch 25 = .ok (.invokespecial 46, 3) := by decide +kernel
theorem dX3_batch_28 : decode cX3_batch 28 = .ok (.athrow, 1) := by decide +kernel
theorem dX3_batch_29 : decode cX3_batch 29 = .ok (.iload_n 2, 1) := by decide +kernel
theorem dX3_batch_30 : decode cX3_batch 30 = .ok (.ifCond .eq 11, 3) := by decide +kernel
theorem dX3_batch_33 : decode cX3_batch 33 = .ok (.aload_n 3, 1) := by decide +kernel
theorem dX3_batch_34 : decode cX3_batch 34 = .ok (.iconst 1, 1) := by decide +kernel
theorem dX3_batch_35 : decode cX3_batch 35 = .ok (.putfield 121, 3) := by decide +kernel
theorem dX3_batch_38 : decode cX3_batch 38 = .ok (.goto 7, 3) := by decide +kernel
theorem dX3_batch_41 : decode cX3_batch 41 = .ok (.aload_n 3, 1) := by decide +kernel
theorem dX3_batch_42 : decode cX3_batch 42 = .ok (.invokevirtual 127, 3) := by decide +kernel
theorem dX3_batch_45 : decode cX3_batch 45 = .ok (.aload_n 3, 1) := by decide +kernel
theorem dX3_batch_46 : decode cX3_batch 46 = .ok (.getfield 130, 3) := by decide +kernel
theorem dX3_batch_49 : decode cX3_batch 49 = .ok (.ireturn, 1) := by decide +kernel
theorem dX3_same_0 : decode cX3_same 0 = .ok (.iload_n 1, 1) := by decide +kernel
theorem dX3_same_1 : decode cX3_same 1 = .ok (.invokestatic 69, 3) := by decide +kernel
theorem dX3_same_4 : decode cX3_same 4 = .ok (.iload_n 2, 1) := by decide +kernel
theorem dX3_same_5 : decode cX3_same 5 = .ok (.invokestatic 69, 3) := by decide +kernel
theorem dX3_same_8 : decode cX3_same 8 = .ok (.aload_n 0, 1) := by decide +kernel
theorem dX3_same_9 : decode cX3_same 9 = .ok (.getfield 17, 3) := by decide +kernel
theorem dX3_same_12 : decode cX3_same 12 = .ok (.iload_n 1, 1) := by decide +kernel
theorem dX3_same_13 : decode cX3_same 13 = .ok (.aaload, 1) := by decide +kernel
theorem dX3_same_14 : decode cX3_same 14 = .ok (.astore_n 3, 1) := by decide +kernel
theorem dX3_same_15 : decode cX3_same 15 = .ok (.aload_n 0, 1) := by decide +kernel
theorem dX3_same_16 : decode cX3_same 16 = .ok (.getfield 17, 3) := by decide +kernel
theorem dX3_same_19 : decode cX3_same 19 = .ok (.iload_n 2, 1) := by decide +kernel
theorem dX3_same_20 : decode cX3_same 20 = .ok (.aaload, 1) := by decide +kernel
theorem dX3_same_21 : decode cX3_same 21 = .ok (.astore 4, 2) := by decide +kernel
theorem dX3_same_23 : decode cX3_same 23 = .ok (.iconst 0, 1) := by decide +kernel
theorem dX3_same_24 : decode cX3_same 24 = .ok (.istore 5, 2) := by decide +kernel
theorem dX3_same_26 : decode cX3_same 26 = .ok (.iload 5, 2) := by decide +kernel
theorem dX3_same_28 : decode cX3_same 28 = .ok (.aload_n 0, 1) := by decide +kernel
theorem dX3_same_29 : decode cX3_same 29 = .ok (.getfield 24, 3) := by decide +kernel
theorem dX3_same_32 : decode cX3_same 32 = .ok (.getfield 89, 3) := by decide +kernel
theorem dX3_same_35 : decode cX3_same 35 = .ok (.if_icmp .ge 27, 3) := by decide +kernel
theorem dX3_same_38 : decode cX3_same 38 = .ok (.aload_n 3, 1) := by decide +kernel
theorem dX3_same_39 : decode cX3_same 39 = .ok (.iload 5, 2) := by decide +kernel
theorem dX3_same_41 : decode cX3_same 41 = .ok (.invokevirtual 118, 3) := by decide +kernel
theorem dX3_same_44 : decode cX3_same 44 = .ok (.aload 4, 2) := by decide +kernel
theorem dX3_same_46 : decode cX3_same 46 = .ok (.iload 5, 2) := by decide +kernel
theorem dX3_same_48 : decode cX3_same 48 = .ok (.invokevirtual 118, 3) := by decide +kernel
theorem dX3_same_51 : decode cX3_same 51 = .ok (.if_icmp .eq 5, 3) := by decide +kernel
theorem dX3_same_54 : decode cX3_same 54 = .ok (.iconst 0, 1) := by decide +kernel
theorem dX3_same_55 : decode cX3_same 55 = .ok (.ireturn, 1) := by decide +kernel
theorem dX3_same_56 : decode cX3_same 56 = .ok (.iinc 5 1, 3) := by decide +kernel
theorem dX3_same_59 : decode cX3_same 59 = .ok (.goto (-33), 3) := by decide +kernel
theorem dX3_same_62 : decode cX3_same 62 = .ok (.iconst 1, 1) := by decide +kernel
theorem dX3_same_63 : decode cX3_same 63 = .ok (.ireturn, 1) := by decide +kernel
theorem dX3_conflicts_0 : decode cX3_conflicts 0 = .ok (.iload_n 1, 1) := by decide +kernel
theorem dX3_conflicts_1 : decode cX3_conflicts 1 = .ok (.invokestatic 69, 3) := by decide +kernel
theorem dX3_conflicts_4 : decode cX3_conflicts 4 = .ok (.aload_n 0, 1) := by decide +kernel
theorem dX3_conflicts_5 : decode cX3_conflicts 5 = .ok (.getfield 17, 3) := by decide +kernel
theorem dX3_conflicts_8 : decode cX3_conflicts 8 = .ok (.iload_n 1, 1) := by decide +kernel
theorem dX3_conflicts_9 : decode cX3_conflicts 9 = .ok (.aaload, 1) := by decide +kernel
theorem dX3_conflicts_10 : decode cX3_conflicts 10 = .ok (.astore_n 2, 1) := by decide +kernel
theorem dX3_conflicts_11 : decode cX3_conflicts 11 = .ok (.iconst 0, 1) := by decide +kernel
theorem dX3_conflicts_12 : decode cX3_conflicts 12 = .ok (.istore_n 3, 1) := by decide +kernel
theorem dX3_conflicts_13 : decode cX3_conflicts 13 = .ok (.iconst 0, 1) := by decide +kernel
theorem dX3_conflicts_14 : decode cX3_conflicts 14 = .ok (.istore 4, 2) := by decide +kernel
theorem dX3_conflicts_16 : decode cX3_conflicts 16 = .ok (.iload 4, 2) := by decide +kernel
theorem dX3_conflicts_18 : decode cX3_conflicts 18 = .ok (.aload_n 0, 1) := by decide +kernel
theorem dX3_conflicts_19 : decode cX3_conflicts 19 = .ok (.getfield 24, 3) := by decide +kernel
theorem dX3_conflicts_22 : decode cX3_conflicts 22 = .ok (.getfield 89, 3) := by decide +kernel
theorem dX3_conflicts_25 : decode cX3_conflicts 25 = .ok (.if_icmp .ge 31, 3) := by decide +kernel
theorem dX3_conflicts_28 : decode cX3_conflicts 28 = .ok (.aload_n 2, 1) := by decide +kernel
theorem dX3_conflicts_29 : decode cX3_conflicts 29 = .ok (.iload 4, 2) := by decide +kernel
theorem dX3_conflicts_31 : decode cX3_conflicts 31 = .ok (.invokevirtual 118, 3) := by decide +kernel
theorem dX3_conflicts_34 : decode cX3_conflicts 34 = .ok (.ifCond .eq 16, 3) := by decide +kernel
theorem dX3_conflicts_37 : decode cX3_conflicts 37 = .ok (.aload_n 0, 1) := by decide +kernel
theorem dX3_conflicts_38 : decode cX3_conflicts 38 = .ok (.aload_n 2, 1) := by decide +kernel
theorem dX3_conflicts_39 : decode cX3_conflicts 39 = .ok (.iload 4, 2) := by decide +kernel
theorem dX3_conflicts_41 : decode cX3_conflicts 41 = .ok (.invokevirtual 133, 3) := by decide +kernel
theorem dX3_conflicts_44 : decode cX3_conflicts 44 = .ok (.ifCond .eq 6, 3) := by decide +kernel
theorem dX3_conflicts_47 : decode cX3_conflicts 47 = .ok (.iinc 3 1, 3) := by decide +kernel
theorem dX3_conflicts_50 : decode cX3_conflicts 50 = .ok (.iinc 4 1, 3) := by decide +kernel
theorem dX3_conflicts_53 : decode cX3_conflicts 53 = .ok (.goto (-37), 3) := by decide +kernel
theorem dX3_conflicts_56 : decode cX3_conflicts 56 = .ok (.iload_n 3, 1) := by decide +kernel
theorem dX3_conflicts_57 : decode cX3_conflicts 57 = .ok (.ireturn, 1) := by decide +kernel
theorem dX3_beginsConflict_0 : decode cX3_beginsConflict 0 = .ok (.aload_n 0, 1) := by decide +kernel
theorem dX3_beginsConflict_1 : decode cX3_beginsConflict 1 = .ok (.getfield 24, 3) := by decide +kernel
theorem dX3_beginsConflict_4 : decode cX3_beginsConflict 4 = .ok (.getfield 212, 3) := by decide +kernel
theorem dX3_beginsConflict_7 : decode cX3_beginsConflict 7 = .ok (.iload_n 2, 1) := by decide +kernel
theorem dX3_beginsConflict_8 : decode cX3_beginsConflict 8 = .ok (.baload, 1) := by decide +kernel
theorem dX3_beginsConflict_9 : decode cX3_beginsConflict 9 = .ok (.ifCond .eq 5, 3) := by decide +kernel
theorem dX3_beginsConflict_12 : decode cX3_beginsConflict 12 = .ok (.iconst 0, 1) := by decide +kernel
theorem dX3_beginsConflict_13 : decode cX3_beginsConflict 13 = .ok (.ireturn, 1) := by decide +kernel
theorem dX3_beginsConflict_14 : decode cX3_beginsConflict 14 = .ok (.iconst 0, 1) := by decide +kernel
theorem dX3_beginsConflict_15 : decode cX3_beginsConflict 15 = .ok (.istore_n 3, 1) := by decide +kernel
theorem dX3_beginsConflict_16 : decode cX3_beginsConflict 16 = .ok (.iconst 0, 1) := by decide +kernel
theorem dX3_beginsConflict_17 : decode cX3_beginsConflict 17 = .ok (.istore 4, 2) := by decide +kernel
theorem dX3_beginsConflict_19 : decode cX3_beginsConflict 19 = .ok (.iload 4, 2) := by decide +kernel
theorem dX3_beginsConflict_21 : decode cX3_beginsConflict 21 = .ok (.aload_n 0, 1) := by decide +kernel
theorem dX3_beginsConflict_22 : decode cX3_beginsConflict 22 = .ok (.getfield 24, 3) := by decide +kernel
theorem dX3_beginsConflict_25 : decode cX3_beginsConflict 25 = .ok (.getfield 89, 3) := by decide +kernel
theorem dX3_beginsConflict_28 : decode cX3_beginsConflict 28 = .ok (.if_icmp .ge 54, 3) := by decide +kernel
theorem dX3_beginsConflict_31 : decode cX3_beginsConflict 31 = .ok (.aload_n 0, 1) := by decide +kernel
theorem dX3_beginsConflict_32 : decode cX3_beginsConflict 32 = .ok (.getfield 24, 3) := by decide +kernel
theorem dX3_beginsConflict_35 : decode cX3_beginsConflict 35 = .ok (.iload_n 2, 1) := by decide +kernel
theorem dX3_beginsConflict_36 : decode cX3_beginsConflict 36 = .ok (.iload 4, 2) := by decide +kernel
theorem dX3_beginsConflict_38 : decode cX3_beginsConflict 38 = .ok (.invokevirtual 209, 3) := by decide +kernel
theorem dX3_beginsConflict_41 : decode cX3_beginsConflict 41 = .ok (.ifCond .eq 35, 3) := by decide +kernel
theorem dX3_beginsConflict_44 : decode cX3_beginsConflict 44 = .ok (.aload_n 1, 1) := by decide +kernel
theorem dX3_beginsConflict_45 : decode cX3_beginsConflict 45 = .ok (.iload 4, 2) := by decide +kernel
theorem dX3_beginsConflict_47 : decode cX3_beginsConflict 47 = .ok (.invokevirtual 118, 3) := by decide +kernel
theorem dX3_beginsConflict_50 : decode cX3_beginsConflict 50 = .ok (.ifCond .eq 26, 3) := by decide +kernel
theorem dX3_beginsConflict_53 : decode cX3_beginsConflict 53 = .ok (.iload 4, 2) := by decide +kernel
theorem dX3_beginsConflict_55 : decode cX3_beginsConflict 55 = .ok (.iload_n 2, 1) := by decide +kernel
theorem dX3_beginsConflict_56 : decode cX3_beginsConflict 56 = .ok (.if_icmp .lt 16, 3) := by decide +kernel
theorem dX3_beginsConflict_59 : decode cX3_beginsConflict 59 = .ok (.aload_n 0, 1) := by decide +kernel
theorem dX3_beginsConflict_60 : decode cX3_beginsConflict 60 = .ok (.getfield 24, 3) := by decide +kernel
theorem dX3_beginsConflict_63 : decode cX3_beginsConflict 63 = .ok (.getfield 212, 3) := by decide +kernel
theorem dX3_beginsConflict_66 : decode cX3_beginsConflict 66 = .ok (.iload 4, 2) := by decide +kernel
theorem dX3_beginsConflict_68 : decode cX3_beginsConflict 68 = .ok (.baload, 1) := by decide +kernel
theorem dX3_beginsConflict_69 : decode cX3_beginsConflict 69 = .ok (.ifCond .eq 5, 3) := by decide +kernel
theorem dX3_beginsConflict_72 : decode cX3_beginsConflict 72 = .ok (.iconst 0, 1) := by decide +kernel
theorem dX3_beginsConflict_73 : decode cX3_beginsConflict 73 = .ok (.ireturn, 1) := by decide +kernel
theorem dX3_beginsConflict_74 : decode cX3_beginsConflict 74 = .ok (.iconst 1, 1) := by decide +kernel
theorem dX3_beginsConflict_75 : decode cX3_beginsConflict 75 = .ok (.istore_n 3, 1) := by decide +kernel
theorem dX3_beginsConflict_76 : decode cX3_beginsConflict 76 = .ok (.iinc 4 1, 3) := by decide +kernel
theorem dX3_beginsConflict_79 : decode cX3_beginsConflict 79 = .ok (.goto (-60), 3) := by decide +kernel
theorem dX3_beginsConflict_82 : decode cX3_beginsConflict 82 = .ok (.iload_n 3, 1) := by decide +kernel
theorem dX3_beginsConflict_83 : decode cX3_beginsConflict 83 = .ok (.ireturn, 1) := by decide +kernel
theorem dX3_settle_0 : decode cX3_settle 0 = .ok (.iload_n 1, 1) := by decide +kernel
theorem dX3_settle_1 : decode cX3_settle 1 = .ok (.invokestatic 136, 3) := by decide +kernel
theorem dX3_settle_4 : decode cX3_settle 4 = .ok (.iload_n 2, 1) := by decide +kernel
theorem dX3_settle_5 : decode cX3_settle 5 = .ok (.ifCond .ge 13, 3) := by decide +kernel
theorem dX3_settle_8 : decode cX3_settle 8 = .ok (.new 113, 3) := by decide +kernel
theorem dX3_settle_11 : decode cX3_settle 11 = .ok (.dup, 1) := by decide +kernel
theorem dX3_settle_12 : decode cX3_settle 12 = .ok (.ldc 139, 2) := by decide +kernel
theorem dX3_settle_14 : decode cX3_settle 14 = .ok (.invokespecial 117, 3) := by decide +kernel
theorem dX3_settle_17 : decode cX3_settle 17 = .ok (.athrow, 1) := by decide +kernel
theorem dX3_settle_18 : decode cX3_settle 18 = .ok (.aload_n 0, 1) := by decide +kernel
theorem dX3_settle_19 : decode cX3_settle 19 = .ok (.getfield 24, 3) := by decide +kernel
theorem dX3_settle_22 : decode cX3_settle 22 = .ok (.iload_n 1, 1) := by decide +kernel
theorem dX3_settle_23 : decode cX3_settle 23 = .ok (.iload_n 2, 1) := by decide +kernel
theorem dX3_settle_24 : decode cX3_settle 24 = .ok (.invokevirtual 141, 3) := by decide +kernel
theorem dX3_settle_27 : decode cX3_settle 27 = .ok (.istore_n 3, 1) := by decide +kernel
theorem dX3_settle_28 : decode cX3_settle 28 = .ok (.iload_n 3, 1) := by decide +kernel
theorem dX3_settle_29 : decode cX3_settle 29 = .ok (.iconst (-1), 1) := by decide +kernel
theorem dX3_settle_30 : decode cX3_settle 30 = .ok (.if_icmp .ne 13, 3) := by decide +kernel
theorem dX3_settle_33 : decode cX3_settle 33 = .ok (.new 113, 3) := by decide +kernel
theorem dX3_settle_36 : decode cX3_settle 36 = .ok (.dup, 1) := by decide +kernel
theorem dX3_settle_37 : decode cX3_settle 37 = .ok (.ldc 145, 2) := by decide +kernel
theorem dX3_settle_39 : decode cX3_settle 39 = .ok (.invokespecial 117, 3) := by decide +kernel
theorem dX3_settle_42 : decode cX3_settle 42 = .ok (.athrow, 1) := by decide +kernel
theorem dX3_settle_43 : decode cX3_settle 43 = .ok (.aload_n 0, 1) := by decide +kernel
theorem dX3_settle_44 : decode cX3_settle 44 = .ok (.getfield 24, 3) := by decide +kernel
theorem dX3_settle_47 : decode cX3_settle 47 = .ok (.iload_n 3, 1) := by decide +kernel
theorem dX3_settle_48 : decode cX3_settle 48 = .ok (.invokevirtual 147, 3) := by decide +kernel
theorem dX3_settle_51 : decode cX3_settle 51 = .ok (.aload_n 0, 1) := by decide +kernel
theorem dX3_settle_52 : decode cX3_settle 52 = .ok (.getfield 24, 3) := by decide +kernel
theorem dX3_settle_55 : decode cX3_settle 55 = .ok (.getfield 150, 3) := by decide +kernel
theorem dX3_settle_58 : decode cX3_settle 58 = .ok (.iload_n 3, 1) := by decide +kernel
theorem dX3_settle_59 : decode cX3_settle 59 = .ok (.iaload, 1) := by decide +kernel
theorem dX3_settle_60 : decode cX3_settle 60 = .ok (.ireturn, 1) := by decide +kernel
theorem dX3_needName_0 : decode cX3_needName 0 = .ok (.iload_n 0, 1) := by decide +kernel
theorem dX3_needName_1 : decode cX3_needName 1 = .ok (.bipush 9, 2) := by decide +kernel
theorem dX3_needName_3 : decode cX3_needName 3 = .ok (.ishr, 1) := by decide +kernel
theorem dX3_needName_4 : decode cX3_needName 4 = .ok (.invokestatic 34, 3) := by decide +kernel
theorem dX3_needName_7 : decode cX3_needName 7 = .ok (.iload_n 0, 1) := by decide +kernel
theorem dX3_needName_8 : decode cX3_needName 8 = .ok (.bipush 7, 2) := by decide +kernel
theorem dX3_needName_10 : decode cX3_needName 10 = .ok (.invokestatic 206, 3) := by decide +kernel
theorem dX3_needName_13 : decode cX3_needName 13 = .ok (.bipush 100, 2) := by decide +kernel
theorem dX3_needName_15 : decode cX3_needName 15 = .ok (.if_icmp .lt 13, 3) := by decide +kernel
theorem dX3_needName_18 : decode cX3_needName 18 = .ok (.new 113, 3) := by decide +kernel
theorem dX3_needName_21 : decode cX3_needName 21 = .ok (.dup, 1) := by decide +kernel
theorem dX3_needName_22 : decode cX3_needName 22 = .ok (.ldc 204, 2) := by decide +kernel
theorem dX3_needName_24 : decode cX3_needName 24 = .ok (.invokespecial 117, 3) := by decide +kernel
theorem dX3_needName_27 : decode cX3_needName 27 = .ok (.athrow, 1) := by decide +kernel
theorem dX3_needName_28 : decode cX3_needName 28 = .ok (.return_, 1) := by decide +kernel
theorem dX3_last_0 : decode cX3_last 0 = .ok (.iload_n 1, 1) := by decide +kernel
theorem dX3_last_1 : decode cX3_last 1 = .ok (.invokestatic 69, 3) := by decide +kernel
theorem dX3_last_4 : decode cX3_last 4 = .ok (.iload_n 2, 1) := by decide +kernel
theorem dX3_last_5 : decode cX3_last 5 = .ok (.invokestatic 154, 3) := by decide +kernel
theorem dX3_last_8 : decode cX3_last 8 = .ok (.iload_n 3, 1) := by decide +kernel
theorem dX3_last_9 : decode cX3_last 9 = .ok (.ifCond .lt 8, 3) := by decide +kernel
theorem dX3_last_12 : decode cX3_last 12 = .ok (.iload_n 3, 1) := by decide +kernel
theorem dX3_last_13 : decode cX3_last 13 = .ok (.iconst 4, 1) := by decide +kernel
theorem dX3_last_14 : decode cX3_last 14 = .ok (.if_icmp .le 13, 3) := by decide +kernel
theorem dX3_last_17 : decode cX3_last 17 = .ok (.new 113, 3) := by decide +kernel
theorem dX3_last_20 : decode cX3_last 20 = .ok (.dup, 1) := by decide +kernel
theorem dX3_last_21 : decode cX3_last 21 = .ok (.ldc 157, 2) := by decide +kernel
theorem dX3_last_23 : decode cX3_last 23 = .ok (.invokespecial 117, 3) := by decide +kernel
theorem dX3_last_26 : decode cX3_last 26 = .ok (.athrow, 1) := by decide +kernel
theorem dX3_last_27 : decode cX3_last 27 = .ok (.aload_n 0, 1) := by decide +kernel
theorem dX3_last_28 : decode cX3_last 28 = .ok (.getfield 17, 3) := by decide +kernel
theorem dX3_last_31 : decode cX3_last 31 = .ok (.iload_n 1, 1) := by decide +kernel
theorem dX3_last_32 : decode cX3_last 32 = .ok (.aaload, 1) := by decide +kernel
theorem dX3_last_33 : decode cX3_last 33 = .ok (.astore 4, 2) := by decide +kernel
theorem dX3_last_35 : decode cX3_last 35 = .ok (.aload_n 0, 1) := by decide +kernel
theorem dX3_last_36 : decode cX3_last 36 = .ok (.aload 4, 2) := by decide +kernel
theorem dX3_last_38 : decode cX3_last 38 = .ok (.iload_n 2, 1) := by decide +kernel
theorem dX3_last_39 : decode cX3_last 39 = .ok (.aload 4, 2) := by decide +kernel
theorem dX3_last_41 : decode cX3_last 41 = .ok (.getfield 130, 3) := by decide +kernel
theorem dX3_last_44 : decode cX3_last 44 = .ok (.invokevirtual 159, 3) := by decide +kernel
theorem dX3_last_47 : decode cX3_last 47 = .ok (.istore 5, 2) := by decide +kernel
theorem dX3_last_49 : decode cX3_last 49 = .ok (.iload 5, 2) := by decide +kernel
theorem dX3_last_51 : decode cX3_last 51 = .ok (.iconst (-1), 1) := by decide +kernel
theorem dX3_last_52 : decode cX3_last 52 = .ok (.if_icmp .ne 13, 3) := by decide +kernel
theorem dX3_last_55 : decode cX3_last 55 = .ok (.new 42, 3) := by decide +kernel
theorem dX3_last_58 : decode cX3_last 58 = .ok (.dup, 1) := by decide +kernel
theorem dX3_last_59 : decode cX3_last 59 = .ok (.ldc 163, 2) := by decide +kernel
theorem dX3_last_61 : decode cX3_last 61 = .ok (.invokespecial 46, 3) := by decide +kernel
theorem dX3_last_64 : decode cX3_last 64 = .ok (.athrow, 1) := by decide +kernel
theorem dX3_last_65 : decode cX3_last 65 = .ok (.iload_n 3, 1) := by decide +kernel
theorem dX3_last_66 : decode cX3_last 66 = .ok (.tableswitch 68 0 3 #[30, 41, 48, 58], 30) := by decide +kernel
theorem dX3_last_96 : decode cX3_last 96 = .ok (.aload_n 0, 1) := by decide +kernel
theorem dX3_last_97 : decode cX3_last 97 = .ok (.getfield 24, 3) := by decide +kernel
theorem dX3_last_100 : decode cX3_last 100 = .ok (.getfield 150, 3) := by decide +kernel
theorem dX3_last_103 : decode cX3_last 103 = .ok (.iload 5, 2) := by decide +kernel
theorem dX3_last_105 : decode cX3_last 105 = .ok (.iaload, 1) := by decide +kernel
theorem dX3_last_106 : decode cX3_last 106 = .ok (.ireturn, 1) := by decide +kernel
theorem dX3_last_107 : decode cX3_last 107 = .ok (.aload_n 0, 1) := by decide +kernel
theorem dX3_last_108 : decode cX3_last 108 = .ok (.iload 5, 2) := by decide +kernel
theorem dX3_last_110 : decode cX3_last 110 = .ok (.invokevirtual 165, 3) := by decide +kernel
theorem dX3_last_113 : decode cX3_last 113 = .ok (.ireturn, 1) := by decide +kernel
theorem dX3_last_114 : decode cX3_last 114 = .ok (.aload_n 0, 1) := by decide +kernel
theorem dX3_last_115 : decode cX3_last 115 = .ok (.getfield 24, 3) := by decide +kernel
theorem dX3_last_118 : decode cX3_last 118 = .ok (.iload 5, 2) := by decide +kernel
theorem dX3_last_120 : decode cX3_last 120 = .ok (.invokevirtual 168, 3) := by decide +kernel
theorem dX3_last_123 : decode cX3_last 123 = .ok (.ireturn, 1) := by decide +kernel
theorem dX3_last_124 : decode cX3_last 124 = .ok (.aload_n 0, 1) := by decide +kernel
theorem dX3_last_125 : decode cX3_last 125 = .ok (.getfield 24, 3) := by decide +kernel
theorem dX3_last_128 : decode cX3_last 128 = .ok (.iload 5, 2) := by decide +kernel
theorem dX3_last_130 : decode cX3_last 130 = .ok (.invokevirtual 171, 3) := by decide +kernel
theorem dX3_last_133 : decode cX3_last 133 = .ok (.ireturn, 1) := by decide +kernel
theorem dX3_last_134 : decode cX3_last 134 = .ok (.aload_n 0, 1) := by decide +kernel
theorem dX3_last_135 : decode cX3_last 135 = .ok (.getfield 24, 3) := by decide +kernel
theorem dX3_last_138 : decode cX3_last 138 = .ok (.iload 5, 2) := by decide +kernel
theorem dX3_last_140 : decode cX3_last 140 = .ok (.invokevirtual 174, 3) := by decide +kernel
theorem dX3_last_143 : decode cX3_last 143 = .ok (.ireturn, 1) := by decide +kernel
theorem dX3_needKey_0 : decode cX3_needKey 0 = .ok (.iload_n 0, 1) := by decide +kernel
theorem dX3_needKey_1 : decode cX3_needKey 1 = .ok (.ifCond .lt 9, 3) := by decide +kernel
theorem dX3_needKey_4 : decode cX3_needKey 4 = .ok (.iload_n 0, 1) := by decide +kernel
theorem dX3_needKey_5 : decode cX3_needKey 5 = .ok (.bipush 8, 2) := by decide +kernel
theorem dX3_needKey_7 : decode cX3_needKey 7 = .ok (.if_icmp .lt 13, 3) := by decide +kernel
theorem dX3_needKey_10 : decode cX3_needKey 10 = .ok (.new 113, 3) := by decide +kernel
theorem dX3_needKey_13 : decode cX3_needKey 13 = .ok (.dup, 1) := by decide +kernel
theorem dX3_needKey_14 : decode cX3_needKey 14 = .ok (.ldc 194, 2) := by decide +kernel
theorem dX3_needKey_16 : decode cX3_needKey 16 = .ok (.invokespecial 117, 3) := by decide +kernel
theorem dX3_needKey_19 : decode cX3_needKey 19 = .ok (.athrow, 1) := by decide +kernel
theorem dX3_needKey_20 : decode cX3_needKey 20 = .ok (.return_, 1) := by decide +kernel
theorem dX3_findLast_0 : decode cX3_findLast 0 = .ok (.iconst (-1), 1) := by decide +kernel
theorem dX3_findLast_1 : decode cX3_findLast 1 = .ok (.istore 4, 2) := by decide +kernel
theorem dX3_findLast_3 : decode cX3_findLast 3 = .ok (.iconst 0, 1) := by decide +kernel
theorem dX3_findLast_4 : decode cX3_findLast 4 = .ok (.istore 5, 2) := by decide +kernel
theorem dX3_findLast_6 : decode cX3_findLast 6 = .ok (.iload 5, 2) := by decide +kernel
theorem dX3_findLast_8 : decode cX3_findLast 8 = .ok (.aload_n 0, 1) := by decide +kernel
theorem dX3_findLast_9 : decode cX3_findLast 9 = .ok (.getfield 24, 3) := by decide +kernel
theorem dX3_findLast_12 : decode cX3_findLast 12 = .ok (.getfield 89, 3) := by decide +kernel
theorem dX3_findLast_15 : decode cX3_findLast 15 = .ok (.if_icmp .ge 64, 3) := by decide +kernel
theorem dX3_findLast_18 : decode cX3_findLast 18 = .ok (.aload_n 0, 1) := by decide +kernel
theorem dX3_findLast_19 : decode cX3_findLast 19 = .ok (.getfield 24, 3) := by decide +kernel
theorem dX3_findLast_22 : decode cX3_findLast 22 = .ok (.iload 5, 2) := by decide +kernel
theorem dX3_findLast_24 : decode cX3_findLast 24 = .ok (.invokevirtual 218, 3) := by decide +kernel
theorem dX3_findLast_27 : decode cX3_findLast 27 = .ok (.iload_n 2, 1) := by decide +kernel
theorem dX3_findLast_28 : decode cX3_findLast 28 = .ok (.if_icmp .ne 45, 3) := by decide +kernel
theorem dX3_findLast_31 : decode cX3_findLast 31 = .ok (.aload_n 1, 1) := by decide +kernel
theorem dX3_findLast_32 : decode cX3_findLast 32 = .ok (.iload 5, 2) := by decide +kernel
theorem dX3_findLast_34 : decode cX3_findLast 34 = .ok (.iload_n 3, 1) := by decide +kernel
theorem dX3_findLast_35 : decode cX3_findLast 35 = .ok (.invokevirtual 215, 3) := by decide +kernel
theorem dX3_findLast_38 : decode cX3_findLast 38 = .ok (.ifCond .eq 35, 3) := by decide +kernel
theorem dX3_findLast_41 : decode cX3_findLast 41 = .ok (.iload 4, 2) := by decide +kernel
theorem dX3_findLast_43 : decode cX3_findLast 43 = .ok (.iconst (-1), 1) := by decide +kernel
theorem dX3_findLast_44 : decode cX3_findLast 44 = .ok (.if_icmp .eq 14, 3) := by decide +kernel
theorem dX3_findLast_47 : decode cX3_findLast 47 = .ok (.aload_n 0, 1) := by decide +kernel
theorem dX3_findLast_48 : decode cX3_findLast 48 = .ok (.iload 5, 2) := by decide +kernel
theorem dX3_findLast_50 : decode cX3_findLast 50 = .ok (.iload 4, 2) := by decide +kernel
theorem dX3_findLast_52 : decode cX3_findLast 52 = .ok (.invokevirtual 221, 3) := by decide +kernel
theorem dX3_findLast_55 : decode cX3_findLast 55 = .ok (.ifCond .eq 18, 3) := by decide +kernel
theorem dX3_findLast_58 : decode cX3_findLast 58 = .ok (.aload_n 0, 1) := by decide +kernel
theorem dX3_findLast_59 : decode cX3_findLast 59 = .ok (.aload_n 1, 1) := by decide +kernel
theorem dX3_findLast_60 : decode cX3_findLast 60 = .ok (.iload 5, 2) := by decide +kernel
theorem dX3_findLast_62 : decode cX3_findLast 62 = .ok (.iload_n 3, 1) := by decide +kernel
theorem dX3_findLast_63 : decode cX3_findLast 63 = .ok (.invokevirtual 224, 3) := by decide +kernel
theorem dX3_findLast_66 : decode cX3_findLast 66 = .ok (.ifCond .eq 7, 3) := by decide +kernel
theorem dX3_findLast_69 : decode cX3_findLast 69 = .ok (.iload 5, 2) := by decide +kernel
theorem dX3_findLast_71 : decode cX3_findLast 71 = .ok (.istore 4, 2) := by decide +kernel
theorem dX3_findLast_73 : decode cX3_findLast 73 = .ok (.iinc 5 1, 3) := by decide +kernel
theorem dX3_findLast_76 : decode cX3_findLast 76 = .ok (.goto (-70), 3) := by decide +kernel
theorem dX3_findLast_79 : decode cX3_findLast 79 = .ok (.iload 4, 2) := by decide +kernel
theorem dX3_findLast_81 : decode cX3_findLast 81 = .ok (.ireturn, 1) := by decide +kernel
theorem dX3_keyIn_0 : decode cX3_keyIn 0 = .ok (.iload_n 0, 1) := by decide +kernel
theorem dX3_keyIn_1 : decode cX3_keyIn 1 = .ok (.bipush 20, 2) := by decide +kernel
theorem dX3_keyIn_3 : decode cX3_keyIn 3 = .ok (.ishr, 1) := by decide +kernel
theorem dX3_keyIn_4 : decode cX3_keyIn 4 = .ok (.iconst 3, 1) := by decide +kernel
theorem dX3_keyIn_5 : decode cX3_keyIn 5 = .ok (.invokestatic 206, 3) := by decide +kernel
theorem dX3_keyIn_8 : decode cX3_keyIn 8 = .ok (.ireturn, 1) := by decide +kernel
theorem dX3_isLater_0 : decode cX3_isLater 0 = .ok (.aload_n 0, 1) := by decide +kernel
theorem dX3_isLater_1 : decode cX3_isLater 1 = .ok (.iload_n 1, 1) := by decide +kernel
theorem dX3_isLater_2 : decode cX3_isLater 2 = .ok (.invokevirtual 165, 3) := by decide +kernel
theorem dX3_isLater_5 : decode cX3_isLater 5 = .ok (.istore_n 3, 1) := by decide +kernel
theorem dX3_isLater_6 : decode cX3_isLater 6 = .ok (.aload_n 0, 1) := by decide +kernel
theorem dX3_isLater_7 : decode cX3_isLater 7 = .ok (.iload_n 2, 1) := by decide +kernel
theorem dX3_isLater_8 : decode cX3_isLater 8 = .ok (.invokevirtual 165, 3) := by decide +kernel
theorem dX3_isLater_11 : decode cX3_isLater 11 = .ok (.istore 4, 2) := by decide +kernel
theorem dX3_isLater_13 : decode cX3_isLater 13 = .ok (.iload_n 3, 1) := by decide +kernel
theorem dX3_isLater_14 : decode cX3_isLater 14 = .ok (.iload 4, 2) := by decide +kernel
theorem dX3_isLater_16 : decode cX3_isLater 16 = .ok (.if_icmp .eq 17, 3) := by decide +kernel
theorem dX3_isLater_19 : decode cX3_isLater 19 = .ok (.iload_n 3, 1) := by decide +kernel
theorem dX3_isLater_20 : decode cX3_isLater 20 = .ok (.iload 4, 2) := by decide +kernel
theorem dX3_isLater_22 : decode cX3_isLater 22 = .ok (.if_icmp .le 7, 3) := by decide +kernel
theorem dX3_isLater_25 : decode cX3_isLater 25 = .ok (.iconst 1, 1) := by decide +kernel
theorem dX3_isLater_26 : decode cX3_isLater 26 = .ok (.goto 31, 3) := by decide +kernel
theorem dX3_isLater_29 : decode cX3_isLater 29 = .ok (.iconst 0, 1) := by decide +kernel
theorem dX3_isLater_30 : decode cX3_isLater 30 = .ok (.goto 27, 3) := by decide +kernel
theorem dX3_isLater_33 : decode cX3_isLater 33 = .ok (.aload_n 0, 1) := by decide +kernel
theorem dX3_isLater_34 : decode cX3_isLater 34 = .ok (.getfield 24, 3) := by decide +kernel
theorem dX3_isLater_37 : decode cX3_isLater 37 = .ok (.iload_n 1, 1) := by decide +kernel
theorem dX3_isLater_38 : decode cX3_isLater 38 = .ok (.invokevirtual 228, 3) := by decide +kernel
theorem dX3_isLater_41 : decode cX3_isLater 41 = .ok (.aload_n 0, 1) := by decide +kernel
theorem dX3_isLater_42 : decode cX3_isLater 42 = .ok (.getfield 24, 3) := by decide +kernel
theorem dX3_isLater_45 : decode cX3_isLater 45 = .ok (.iload_n 2, 1) := by decide +kernel
theorem dX3_isLater_46 : decode cX3_isLater 46 = .ok (.invokevirtual 228, 3) := by decide +kernel
theorem dX3_isLater_49 : decode cX3_isLater 49 = .ok (.if_icmp .le 7, 3) := by decide +kernel
theorem dX3_isLater_52 : decode cX3_isLater 52 = .ok (.iconst 1, 1) := by decide +kernel
theorem dX3_isLater_53 : decode cX3_isLater 53 = .ok (.goto 4, 3) := by decide +kernel
theorem dX3_isLater_56 : decode cX3_isLater 56 = .ok (.iconst 0, 1) := by decide +kernel
theorem dX3_isLater_57 : decode cX3_isLater 57 = .ok (.ireturn, 1) := by decide +kernel
theorem dX3_realTimeOf_0 : decode cX3_realTimeOf 0 = .ok (.aload_n 0, 1) := by decide +kernel
theorem dX3_realTimeOf_1 : decode cX3_realTimeOf 1 = .ok (.getfield 24, 3) := by decide +kernel
theorem dX3_realTimeOf_4 : decode cX3_realTimeOf 4 = .ok (.iload_n 1, 1) := by decide +kernel
theorem dX3_realTimeOf_5 : decode cX3_realTimeOf 5 = .ok (.invokevirtual 168, 3) := by decide +kernel
theorem dX3_realTimeOf_8 : decode cX3_realTimeOf 8 = .ok (.istore_n 2, 1) := by decide +kernel
theorem dX3_realTimeOf_9 : decode cX3_realTimeOf 9 = .ok (.iload_n 2, 1) := by decide +kernel
theorem dX3_realTimeOf_10 : decode cX3_realTimeOf 10 = .ok (.iconst 5, 1) := by decide +kernel
theorem dX3_realTimeOf_11 : decode cX3_realTimeOf 11 = .ok (.if_icmp .ge 27, 3) := by decide +kernel
theorem dX3_realTimeOf_14 : decode cX3_realTimeOf 14 = .ok (.aload_n 0, 1) := by decide +kernel
theorem dX3_realTimeOf_15 : decode cX3_realTimeOf 15 = .ok (.getfield 11, 3) := by decide +kernel
theorem dX3_realTimeOf_18 : decode cX3_realTimeOf 18 = .ok (.iload_n 2, 1) := by decide +kernel
theorem dX3_realTimeOf_19 : decode cX3_realTimeOf 19 = .ok (.aaload, 1) := by decide +kernel
theorem dX3_realTimeOf_20 : decode cX3_realTimeOf 20 = .ok (.aload_n 0, 1) := by decide +kernel
theorem dX3_realTimeOf_21 : decode cX3_realTimeOf 21 = .ok (.getfield 24, 3) := by decide +kernel
theorem dX3_realTimeOf_24 : decode cX3_realTimeOf 24 = .ok (.getfield 231, 3) := by decide +kernel
theorem dX3_realTimeOf_27 : decode cX3_realTimeOf 27 = .ok (.iload_n 1, 1) := by decide +kernel
theorem dX3_realTimeOf_28 : decode cX3_realTimeOf 28 = .ok (.iaload, 1) := by decide +kernel
theorem dX3_realTimeOf_29 : decode cX3_realTimeOf 29 = .ok (.invokestatic 201, 3) := by decide +kernel
theorem dX3_realTimeOf_32 : decode cX3_realTimeOf 32 = .ok (.invokevirtual 65, 3) := by decide +kernel
theorem dX3_realTimeOf_35 : decode cX3_realTimeOf 35 = .ok (.goto 4, 3) := by decide +kernel
theorem dX3_realTimeOf_38 : decode cX3_realTimeOf 38 = .ok (.iconst 0, 1) := by decide +kernel
theorem dX3_realTimeOf_39 : decode cX3_realTimeOf 39 = .ok (.ireturn, 1) := by decide +kernel
theorem dX3_countsBy_0 : decode cX3_countsBy 0 = .ok (.aload_n 0, 1) := by decide +kernel
theorem dX3_countsBy_1 : decode cX3_countsBy 1 = .ok (.getfield 24, 3) := by decide +kernel
theorem dX3_countsBy_4 : decode cX3_countsBy 4 = .ok (.getfield 212, 3) := by decide +kernel
theorem dX3_countsBy_7 : decode cX3_countsBy 7 = .ok (.iload_n 2, 1) := by decide +kernel
theorem dX3_countsBy_8 : decode cX3_countsBy 8 = .ok (.baload, 1) := by decide +kernel
theorem dX3_countsBy_9 : decode cX3_countsBy 9 = .ok (.ifCond .eq 5, 3) := by decide +kernel
theorem dX3_countsBy_12 : decode cX3_countsBy 12 = .ok (.iconst 1, 1) := by decide +kernel
theorem dX3_countsBy_13 : decode cX3_countsBy 13 = .ok (.ireturn, 1) := by decide +kernel
theorem dX3_countsBy_14 : decode cX3_countsBy 14 = .ok (.iconst 0, 1) := by decide +kernel
theorem dX3_countsBy_15 : decode cX3_countsBy 15 = .ok (.istore 4, 2) := by decide +kernel
theorem dX3_countsBy_17 : decode cX3_countsBy 17 = .ok (.iload 4, 2) := by decide +kernel
theorem dX3_countsBy_19 : decode cX3_countsBy 19 = .ok (.aload_n 0, 1) := by decide +kernel
theorem dX3_countsBy_20 : decode cX3_countsBy 20 = .ok (.getfield 24, 3) := by decide +kernel
theorem dX3_countsBy_23 : decode cX3_countsBy 23 = .ok (.getfield 89, 3) := by decide +kernel
theorem dX3_countsBy_26 : decode cX3_countsBy 26 = .ok (.if_icmp .ge 47, 3) := by decide +kernel
theorem dX3_countsBy_29 : decode cX3_countsBy 29 = .ok (.aload_n 0, 1) := by decide +kernel
theorem dX3_countsBy_30 : decode cX3_countsBy 30 = .ok (.getfield 24, 3) := by decide +kernel
theorem dX3_countsBy_33 : decode cX3_countsBy 33 = .ok (.iload_n 2, 1) := by decide +kernel
theorem dX3_countsBy_34 : decode cX3_countsBy 34 = .ok (.iload 4, 2) := by decide +kernel
theorem dX3_countsBy_36 : decode cX3_countsBy 36 = .ok (.invokevirtual 209, 3) := by decide +kernel
theorem dX3_countsBy_39 : decode cX3_countsBy 39 = .ok (.ifCond .eq 28, 3) := by decide +kernel
theorem dX3_countsBy_42 : decode cX3_countsBy 42 = .ok (.aload_n 0, 1) := by decide +kernel
theorem dX3_countsBy_43 : decode cX3_countsBy 43 = .ok (.getfield 24, 3) := by decide +kernel
theorem dX3_countsBy_46 : decode cX3_countsBy 46 = .ok (.getfield 212, 3) := by decide +kernel
theorem dX3_countsBy_49 : decode cX3_countsBy 49 = .ok (.iload 4, 2) := by decide +kernel
theorem dX3_countsBy_51 : decode cX3_countsBy 51 = .ok (.baload, 1) := by decide +kernel
theorem dX3_countsBy_52 : decode cX3_countsBy 52 = .ok (.ifCond .ne 13, 3) := by decide +kernel
theorem dX3_countsBy_55 : decode cX3_countsBy 55 = .ok (.aload_n 1, 1) := by decide +kernel
theorem dX3_countsBy_56 : decode cX3_countsBy 56 = .ok (.iload 4, 2) := by decide +kernel
theorem dX3_countsBy_58 : decode cX3_countsBy 58 = .ok (.iload_n 3, 1) := by decide +kernel
theorem dX3_countsBy_59 : decode cX3_countsBy 59 = .ok (.invokevirtual 215, 3) := by decide +kernel
theorem dX3_countsBy_62 : decode cX3_countsBy 62 = .ok (.ifCond .eq 5, 3) := by decide +kernel
theorem dX3_countsBy_65 : decode cX3_countsBy 65 = .ok (.iconst 0, 1) := by decide +kernel
theorem dX3_countsBy_66 : decode cX3_countsBy 66 = .ok (.ireturn, 1) := by decide +kernel
theorem dX3_countsBy_67 : decode cX3_countsBy 67 = .ok (.iinc 4 1, 3) := by decide +kernel
theorem dX3_countsBy_70 : decode cX3_countsBy 70 = .ok (.goto (-53), 3) := by decide +kernel
theorem dX3_countsBy_73 : decode cX3_countsBy 73 = .ok (.iconst 1, 1) := by decide +kernel
theorem dX3_countsBy_74 : decode cX3_countsBy 74 = .ok (.ireturn, 1) := by decide +kernel
theorem dX3_known_0 : decode cX3_known 0 = .ok (.iload_n 1, 1) := by decide +kernel
theorem dX3_known_1 : decode cX3_known 1 = .ok (.invokestatic 69, 3) := by decide +kernel
theorem dX3_known_4 : decode cX3_known 4 = .ok (.iload_n 2, 1) := by decide +kernel
theorem dX3_known_5 : decode cX3_known 5 = .ok (.invokestatic 154, 3) := by decide +kernel
theorem dX3_known_8 : decode cX3_known 8 = .ok (.aload_n 0, 1) := by decide +kernel
theorem dX3_known_9 : decode cX3_known 9 = .ok (.getfield 17, 3) := by decide +kernel
theorem dX3_known_12 : decode cX3_known 12 = .ok (.iload_n 1, 1) := by decide +kernel
theorem dX3_known_13 : decode cX3_known 13 = .ok (.aaload, 1) := by decide +kernel
theorem dX3_known_14 : decode cX3_known 14 = .ok (.astore 4, 2) := by decide +kernel
theorem dX3_known_16 : decode cX3_known 16 = .ok (.iload_n 3, 1) := by decide +kernel
theorem dX3_known_17 : decode cX3_known 17 = .ok (.ifCond .lt 12, 3) := by decide +kernel
theorem dX3_known_20 : decode cX3_known 20 = .ok (.iload_n 3, 1) := by decide +kernel
theorem dX3_known_21 : decode cX3_known 21 = .ok (.aload 4, 2) := by decide +kernel
theorem dX3_known_23 : decode cX3_known 23 = .ok (.getfield 130, 3) := by decide +kernel
theorem dX3_known_26 : decode cX3_known 26 = .ok (.if_icmp .le 13, 3) := by decide +kernel
theorem dX3_known_29 : decode cX3_known 29 = .ok (.new 56, 3) := by decide +kernel
theorem dX3_known_32 : decode cX3_known 32 = .ok (.dup, 1) := by decide +kernel
theorem dX3_known_33 : decode cX3_known 33 = .ok (.ldc 176, 2) := by decide +kernel
theorem dX3_known_35 : decode cX3_known 35 = .ok (.invokespecial 60, 3) := by decide +kernel
theorem dX3_known_38 : decode cX3_known 38 = .ok (.athrow, 1) := by decide +kernel
theorem dX3_known_39 : decode cX3_known 39 = .ok (.aload_n 0, 1) := by decide +kernel
theorem dX3_known_40 : decode cX3_known 40 = .ok (.aload 4, 2) := by decide +kernel
theorem dX3_known_42 : decode cX3_known 42 = .ok (.iload_n 2, 1) := by decide +kernel
theorem dX3_known_43 : decode cX3_known 43 = .ok (.iload_n 3, 1) := by decide +kernel
theorem dX3_known_44 : decode cX3_known 44 = .ok (.invokevirtual 159, 3) := by decide +kernel
theorem dX3_known_47 : decode cX3_known 47 = .ok (.istore 5, 2) := by decide +kernel
theorem dX3_known_49 : decode cX3_known 49 = .ok (.iload 5, 2) := by decide +kernel
theorem dX3_known_51 : decode cX3_known 51 = .ok (.iconst (-1), 1) := by decide +kernel
theorem dX3_known_52 : decode cX3_known 52 = .ok (.if_icmp .ne 13, 3) := by decide +kernel
theorem dX3_known_55 : decode cX3_known 55 = .ok (.new 42, 3) := by decide +kernel
theorem dX3_known_58 : decode cX3_known 58 = .ok (.dup, 1) := by decide +kernel
theorem dX3_known_59 : decode cX3_known 59 = .ok (.ldc 178, 2) := by decide +kernel
theorem dX3_known_61 : decode cX3_known 61 = .ok (.invokespecial 46, 3) := by decide +kernel
theorem dX3_known_64 : decode cX3_known 64 = .ok (.athrow, 1) := by decide +kernel
theorem dX3_known_65 : decode cX3_known 65 = .ok (.aload_n 0, 1) := by decide +kernel
theorem dX3_known_66 : decode cX3_known 66 = .ok (.getfield 24, 3) := by decide +kernel
theorem dX3_known_69 : decode cX3_known 69 = .ok (.getfield 150, 3) := by decide +kernel
theorem dX3_known_72 : decode cX3_known 72 = .ok (.iload 5, 2) := by decide +kernel
theorem dX3_known_74 : decode cX3_known 74 = .ok (.iaload, 1) := by decide +kernel
theorem dX3_known_75 : decode cX3_known 75 = .ok (.ireturn, 1) := by decide +kernel
theorem dX3_many_0 : decode cX3_many 0 = .ok (.iload_n 1, 1) := by decide +kernel
theorem dX3_many_1 : decode cX3_many 1 = .ok (.invokestatic 69, 3) := by decide +kernel
theorem dX3_many_4 : decode cX3_many 4 = .ok (.iload_n 2, 1) := by decide +kernel
theorem dX3_many_5 : decode cX3_many 5 = .ok (.ifCond .lt 8, 3) := by decide +kernel
theorem dX3_many_8 : decode cX3_many 8 = .ok (.iload_n 2, 1) := by decide +kernel
theorem dX3_many_9 : decode cX3_many 9 = .ok (.iconst 2, 1) := by decide +kernel
theorem dX3_many_10 : decode cX3_many 10 = .ok (.if_icmp .le 13, 3) := by decide +kernel
theorem dX3_many_13 : decode cX3_many 13 = .ok (.new 113, 3) := by decide +kernel
theorem dX3_many_16 : decode cX3_many 16 = .ok (.dup, 1) := by decide +kernel
theorem dX3_many_17 : decode cX3_many 17 = .ok (.ldc 157, 2) := by decide +kernel
theorem dX3_many_19 : decode cX3_many 19 = .ok (.invokespecial 117, 3) := by decide +kernel
theorem dX3_many_22 : decode cX3_many 22 = .ok (.athrow, 1) := by decide +kernel
theorem dX3_many_23 : decode cX3_many 23 = .ok (.aload_n 0, 1) := by decide +kernel
theorem dX3_many_24 : decode cX3_many 24 = .ok (.getfield 17, 3) := by decide +kernel
theorem dX3_many_27 : decode cX3_many 27 = .ok (.iload_n 1, 1) := by decide +kernel
theorem dX3_many_28 : decode cX3_many 28 = .ok (.aaload, 1) := by decide +kernel
theorem dX3_many_29 : decode cX3_many 29 = .ok (.astore_n 3, 1) := by decide +kernel
theorem dX3_many_30 : decode cX3_many 30 = .ok (.iload_n 2, 1) := by decide +kernel
theorem dX3_many_31 : decode cX3_many 31 = .ok (.lookupswitch 35 #[(0, 25), (1, 30)], 25) := by decide +kernel
theorem dX3_many_56 : decode cX3_many 56 = .ok (.aload_n 3, 1) := by decide +kernel
theorem dX3_many_57 : decode cX3_many 57 = .ok (.getfield 180, 3) := by decide +kernel
theorem dX3_many_60 : decode cX3_many 60 = .ok (.ireturn, 1) := by decide +kernel
theorem dX3_many_61 : decode cX3_many 61 = .ok (.aload_n 3, 1) := by decide +kernel
theorem dX3_many_62 : decode cX3_many 62 = .ok (.getfield 130, 3) := by decide +kernel
theorem dX3_many_65 : decode cX3_many 65 = .ok (.ireturn, 1) := by decide +kernel
theorem dX3_many_66 : decode cX3_many 66 = .ok (.aload_n 3, 1) := by decide +kernel
theorem dX3_many_67 : decode cX3_many 67 = .ok (.getfield 183, 3) := by decide +kernel
theorem dX3_many_70 : decode cX3_many 70 = .ok (.ireturn, 1) := by decide +kernel
theorem dX3_gap_0 : decode cX3_gap 0 = .ok (.iload_n 1, 1) := by decide +kernel
theorem dX3_gap_1 : decode cX3_gap 1 = .ok (.invokestatic 69, 3) := by decide +kernel
theorem dX3_gap_4 : decode cX3_gap 4 = .ok (.iload_n 2, 1) := by decide +kernel
theorem dX3_gap_5 : decode cX3_gap 5 = .ok (.invokestatic 34, 3) := by decide +kernel
theorem dX3_gap_8 : decode cX3_gap 8 = .ok (.iload_n 3, 1) := by decide +kernel
theorem dX3_gap_9 : decode cX3_gap 9 = .ok (.ifCond .ge 13, 3) := by decide +kernel
theorem dX3_gap_12 : decode cX3_gap 12 = .ok (.new 113, 3) := by decide +kernel
theorem dX3_gap_15 : decode cX3_gap 15 = .ok (.dup, 1) := by decide +kernel
theorem dX3_gap_16 : decode cX3_gap 16 = .ok (.ldc 139, 2) := by decide +kernel
theorem dX3_gap_18 : decode cX3_gap 18 = .ok (.invokespecial 117, 3) := by decide +kernel
theorem dX3_gap_21 : decode cX3_gap 21 = .ok (.athrow, 1) := by decide +kernel
theorem dX3_gap_22 : decode cX3_gap 22 = .ok (.aload_n 0, 1) := by decide +kernel
theorem dX3_gap_23 : decode cX3_gap 23 = .ok (.aload_n 0, 1) := by decide +kernel
theorem dX3_gap_24 : decode cX3_gap 24 = .ok (.getfield 17, 3) := by decide +kernel
theorem dX3_gap_27 : decode cX3_gap 27 = .ok (.iload_n 1, 1) := by decide +kernel
theorem dX3_gap_28 : decode cX3_gap 28 = .ok (.aaload, 1) := by decide +kernel
theorem dX3_gap_29 : decode cX3_gap 29 = .ok (.iload_n 2, 1) := by decide +kernel
theorem dX3_gap_30 : decode cX3_gap 30 = .ok (.invokevirtual 186, 3) := by decide +kernel
theorem dX3_gap_33 : decode cX3_gap 33 = .ok (.istore 4, 2) := by decide +kernel
theorem dX3_gap_35 : decode cX3_gap 35 = .ok (.iconst (-1), 1) := by decide +kernel
theorem dX3_gap_36 : decode cX3_gap 36 = .ok (.istore 5, 2) := by decide +kernel
theorem dX3_gap_38 : decode cX3_gap 38 = .ok (.iload_n 3, 1) := by decide +kernel
theorem dX3_gap_39 : decode cX3_gap 39 = .ok (.istore 6, 2) := by decide +kernel
theorem dX3_gap_41 : decode cX3_gap 41 = .ok (.iconst 0, 1) := by decide +kernel
theorem dX3_gap_42 : decode cX3_gap 42 = .ok (.istore 7, 2) := by decide +kernel
theorem dX3_gap_44 : decode cX3_gap 44 = .ok (.iload 7, 2) := by decide +kernel
theorem dX3_gap_46 : decode cX3_gap 46 = .ok (.iload 4, 2) := by decide +kernel
theorem dX3_gap_48 : decode cX3_gap 48 = .ok (.if_icmp .gt 72, 3) := by decide +kernel
theorem dX3_gap_51 : decode cX3_gap 51 = .ok (.iload 7, 2) := by decide +kernel
theorem dX3_gap_53 : decode cX3_gap 53 = .ok (.bipush 100, 2) := by decide +kernel
theorem dX3_gap_55 : decode cX3_gap 55 = .ok (.if_icmp .ge 65, 3) := by decide +kernel
theorem dX3_gap_58 : decode cX3_gap 58 = .ok (.aload_n 0, 1) := by decide +kernel
theorem dX3_gap_59 : decode cX3_gap 59 = .ok (.getfield 28, 3) := by decide +kernel
theorem dX3_gap_62 : decode cX3_gap 62 = .ok (.iload 7, 2) := by decide +kernel
theorem dX3_gap_64 : decode cX3_gap 64 = .ok (.baload, 1) := by decide +kernel
theorem dX3_gap_65 : decode cX3_gap 65 = .ok (.ifCond .ne 21, 3) := by decide +kernel
theorem dX3_gap_68 : decode cX3_gap 68 = .ok (.iload 5, 2) := by decide +kernel
theorem dX3_gap_70 : decode cX3_gap 70 = .ok (.iconst (-1), 1) := by decide +kernel
theorem dX3_gap_71 : decode cX3_gap 71 = .ok (.if_icmp .ne 8, 3) := by decide +kernel
theorem dX3_gap_74 : decode cX3_gap 74 = .ok (.iload 7, 2) := by decide +kernel
theorem dX3_gap_76 : decode cX3_gap 76 = .ok (.goto 5, 3) := by decide +kernel
theorem dX3_gap_79 : decode cX3_gap 79 = .ok (.iload 5, 2) := by decide +kernel
theorem dX3_gap_81 : decode cX3_gap 81 = .ok (.istore 5, 2) := by decide +kernel
theorem dX3_gap_83 : decode cX3_gap 83 = .ok (.goto 31, 3) := by decide +kernel
theorem dX3_gap_86 : decode cX3_gap 86 = .ok (.iload 5, 2) := by decide +kernel
theorem dX3_gap_88 : decode cX3_gap 88 = .ok (.iconst (-1), 1) := by decide +kernel
theorem dX3_gap_89 : decode cX3_gap 89 = .ok (.if_icmp .eq 25, 3) := by decide +kernel
theorem dX3_gap_92 : decode cX3_gap 92 = .ok (.iload 6, 2) := by decide +kernel
theorem dX3_gap_94 : decode cX3_gap 94 = .ok (.ifCond .ne 14, 3) := by decide +kernel
theorem dX3_gap_97 : decode cX3_gap 97 = .ok (.bipush 100, 2) := by decide +kernel
theorem dX3_gap_99 : decode cX3_gap 99 = .ok (.iload 5, 2) := by decide +kernel
theorem dX3_gap_101 : decode cX3_gap 101 = .ok (.imul, 1) := by decide +kernel
theorem dX3_gap_102 : decode cX3_gap 102 = .ok (.iload 7, 2) := by decide +kernel
theorem dX3_gap_104 : decode cX3_gap 104 = .ok (.iadd, 1) := by decide +kernel
theorem dX3_gap_105 : decode cX3_gap 105 = .ok (.iconst 1, 1) := by decide +kernel
theorem dX3_gap_106 : decode cX3_gap 106 = .ok (.isub, 1) := by decide +kernel
theorem dX3_gap_107 : decode cX3_gap 107 = .ok (.ireturn, 1) := by decide +kernel
theorem dX3_gap_108 : decode cX3_gap 108 = .ok (.iinc 6 (-1), 3) := by decide +kernel
theorem dX3_gap_111 : decode cX3_gap 111 = .ok (.iconst (-1), 1) := by decide +kernel
theorem dX3_gap_112 : decode cX3_gap 112 = .ok (.istore 5, 2) := by decide +kernel
theorem dX3_gap_114 : decode cX3_gap 114 = .ok (.iinc 7 1, 3) := by decide +kernel
theorem dX3_gap_117 : decode cX3_gap 117 = .ok (.goto (-73), 3) := by decide +kernel
theorem dX3_gap_120 : decode cX3_gap 120 = .ok (.iconst (-1), 1) := by decide +kernel
theorem dX3_gap_121 : decode cX3_gap 121 = .ok (.ireturn, 1) := by decide +kernel
theorem dX3_hear_0 : decode cX3_hear 0 = .ok (.iconst 0, 1) := by decide +kernel
theorem dX3_hear_1 : decode cX3_hear 1 = .ok (.istore_n 3, 1) := by decide +kernel
theorem dX3_hear_2 : decode cX3_hear 2 = .ok (.iload_n 3, 1) := by decide +kernel
theorem dX3_hear_3 : decode cX3_hear 3 = .ok (.bipush 100, 2) := by decide +kernel
theorem dX3_hear_5 : decode cX3_hear 5 = .ok (.if_icmp .ge 16, 3) := by decide +kernel
theorem dX3_hear_8 : decode cX3_hear 8 = .ok (.aload_n 0, 1) := by decide +kernel
theorem dX3_hear_9 : decode cX3_hear 9 = .ok (.getfield 28, 3) := by decide +kernel
theorem dX3_hear_12 : decode cX3_hear 12 = .ok (.iload_n 3, 1) := by decide +kernel
theorem dX3_hear_13 : decode cX3_hear 13 = .ok (.iconst 0, 1) := by decide +kernel
theorem dX3_hear_14 : decode cX3_hear 14 = .ok (.bastore, 1) := by decide +kernel
theorem dX3_hear_15 : decode cX3_hear 15 = .ok (.iinc 3 1, 3) := by decide +kernel
theorem dX3_hear_18 : decode cX3_hear 18 = .ok (.goto (-16), 3) := by decide +kernel
theorem dX3_hear_21 : decode cX3_hear 21 = .ok (.aload_n 0, 1) := by decide +kernel
theorem dX3_hear_22 : decode cX3_hear 22 = .ok (.getfield 11, 3) := by decide +kernel
theorem dX3_hear_25 : decode cX3_hear 25 = .ok (.iload_n 2, 1) := by decide +kernel
theorem dX3_hear_26 : decode cX3_hear 26 = .ok (.aaload, 1) := by decide +kernel
theorem dX3_hear_27 : decode cX3_hear 27 = .ok (.getfield 76, 3) := by decide +kernel
theorem dX3_hear_30 : decode cX3_hear 30 = .ok (.istore_n 3, 1) := by decide +kernel
theorem dX3_hear_31 : decode cX3_hear 31 = .ok (.iconst (-1), 1) := by decide +kernel
theorem dX3_hear_32 : decode cX3_hear 32 = .ok (.istore 4, 2) := by decide +kernel
theorem dX3_hear_34 : decode cX3_hear 34 = .ok (.iconst 0, 1) := by decide +kernel
theorem dX3_hear_35 : decode cX3_hear 35 = .ok (.istore 5, 2) := by decide +kernel
theorem dX3_hear_37 : decode cX3_hear 37 = .ok (.iload 5, 2) := by decide +kernel
theorem dX3_hear_39 : decode cX3_hear 39 = .ok (.aload_n 0, 1) := by decide +kernel
theorem dX3_hear_40 : decode cX3_hear 40 = .ok (.getfield 24, 3) := by decide +kernel
theorem dX3_hear_43 : decode cX3_hear 43 = .ok (.getfield 89, 3) := by decide +kernel
theorem dX3_hear_46 : decode cX3_hear 46 = .ok (.if_icmp .ge 73, 3) := by decide +kernel
theorem dX3_hear_49 : decode cX3_hear 49 = .ok (.aload_n 0, 1) := by decide +kernel
theorem dX3_hear_50 : decode cX3_hear 50 = .ok (.getfield 24, 3) := by decide +kernel
theorem dX3_hear_53 : decode cX3_hear 53 = .ok (.iload 5, 2) := by decide +kernel
theorem dX3_hear_55 : decode cX3_hear 55 = .ok (.invokevirtual 171, 3) := by decide +kernel
theorem dX3_hear_58 : decode cX3_hear 58 = .ok (.istore 6, 2) := by decide +kernel
theorem dX3_hear_60 : decode cX3_hear 60 = .ok (.aload_n 1, 1) := by decide +kernel
theorem dX3_hear_61 : decode cX3_hear 61 = .ok (.iload 5, 2) := by decide +kernel
theorem dX3_hear_63 : decode cX3_hear 63 = .ok (.invokevirtual 118, 3) := by decide +kernel
theorem dX3_hear_66 : decode cX3_hear 66 = .ok (.ifCond .eq 47, 3) := by decide +kernel
theorem dX3_hear_69 : decode cX3_hear 69 = .ok (.aload_n 0, 1) := by decide +kernel
theorem dX3_hear_70 : decode cX3_hear 70 = .ok (.getfield 24, 3) := by decide +kernel
theorem dX3_hear_73 : decode cX3_hear 73 = .ok (.getfield 234, 3) := by decide +kernel
theorem dX3_hear_76 : decode cX3_hear 76 = .ok (.iload 5, 2) := by decide +kernel
theorem dX3_hear_78 : decode cX3_hear 78 = .ok (.iaload, 1) := by decide +kernel
theorem dX3_hear_79 : decode cX3_hear 79 = .ok (.iload_n 2, 1) := by decide +kernel
theorem dX3_hear_80 : decode cX3_hear 80 = .ok (.iload_n 3, 1) := by decide +kernel
theorem dX3_hear_81 : decode cX3_hear 81 = .ok (.iload 6, 2) := by decide +kernel
theorem dX3_hear_83 : decode cX3_hear 83 = .ok (.invokestatic 82, 3) := by decide +kernel
theorem dX3_hear_86 : decode cX3_hear 86 = .ok (.if_icmp .ne 27, 3) := by decide +kernel
theorem dX3_hear_89 : decode cX3_hear 89 = .ok (.iload 6, 2) := by decide +kernel
theorem dX3_hear_91 : decode cX3_hear 91 = .ok (.bipush 100, 2) := by decide +kernel
theorem dX3_hear_93 : decode cX3_hear 93 = .ok (.if_icmp .ge 20, 3) := by decide +kernel
theorem dX3_hear_96 : decode cX3_hear 96 = .ok (.aload_n 0, 1) := by decide +kernel
theorem dX3_hear_97 : decode cX3_hear 97 = .ok (.getfield 28, 3) := by decide +kernel
theorem dX3_hear_100 : decode cX3_hear 100 = .ok (.iload 6, 2) := by decide +kernel
theorem dX3_hear_102 : decode cX3_hear 102 = .ok (.iconst 1, 1) := by decide +kernel
theorem dX3_hear_103 : decode cX3_hear 103 = .ok (.bastore, 1) := by decide +kernel
theorem dX3_hear_104 : decode cX3_hear 104 = .ok (.iload 4, 2) := by decide +kernel
theorem dX3_hear_106 : decode cX3_hear 106 = .ok (.iload 6, 2) := by decide +kernel
theorem dX3_hear_108 : decode cX3_hear 108 = .ok (.invokestatic 237, 3) := by decide +kernel
theorem dX3_hear_111 : decode cX3_hear 111 = .ok (.istore 4, 2) := by decide +kernel
theorem dX3_hear_113 : decode cX3_hear 113 = .ok (.iinc 5 1, 3) := by decide +kernel
theorem dX3_hear_116 : decode cX3_hear 116 = .ok (.goto (-79), 3) := by decide +kernel
theorem dX3_hear_119 : decode cX3_hear 119 = .ok (.iload 4, 2) := by decide +kernel
theorem dX3_hear_121 : decode cX3_hear 121 = .ok (.ireturn, 1) := by decide +kernel
end
section
theorem dX4_init_0 : decode cX4_init 0 = .ok (.aload_n 0, 1) := by decide +kernel
theorem dX4_init_1 : decode cX4_init 1 = .ok (.invokespecial 1, 3) := by decide +kernel
theorem dX4_init_4 : decode cX4_init 4 = .ok (.aload_n 0, 1) := by decide +kernel
theorem dX4_init_5 : decode cX4_init 5 = .ok (.iconst 5, 1) := by decide +kernel
theorem dX4_init_6 : decode cX4_init 6 = .ok (.newarray .int, 2) := by decide +kernel
theorem dX4_init_8 : decode cX4_init 8 = .ok (.putfield 7, 3) := by decide +kernel
theorem dX4_init_11 : decode cX4_init 11 = .ok (.aload_n 0, 1) := by decide +kernel
theorem dX4_init_12 : decode cX4_init 12 = .ok (.iconst 5, 1) := by decide +kernel
theorem dX4_init_13 : decode cX4_init 13 = .ok (.newarray .int, 2) := by decide +kernel
theorem dX4_init_15 : decode cX4_init 15 = .ok (.putfield 13, 3) := by decide +kernel
theorem dX4_init_18 : decode cX4_init 18 = .ok (.aload_n 0, 1) := by decide +kernel
theorem dX4_init_19 : decode cX4_init 19 = .ok (.bipush 30, 2) := by decide +kernel
theorem dX4_init_21 : decode cX4_init 21 = .ok (.newarray .int, 2) := by decide +kernel
theorem dX4_init_23 : decode cX4_init 23 = .ok (.putfield 16, 3) := by decide +kernel
theorem dX4_init_26 : decode cX4_init 26 = .ok (.aload_n 0, 1) := by decide +kernel
theorem dX4_init_27 : decode cX4_init 27 = .ok (.bipush 30, 2) := by decide +kernel
theorem dX4_init_29 : decode cX4_init 29 = .ok (.newarray .int, 2) := by decide +kernel
theorem dX4_init_31 : decode cX4_init 31 = .ok (.putfield 19, 3) := by decide +kernel
theorem dX4_init_34 : decode cX4_init 34 = .ok (.aload_n 0, 1) := by decide +kernel
theorem dX4_init_35 : decode cX4_init 35 = .ok (.bipush 120, 2) := by decide +kernel
theorem dX4_init_37 : decode cX4_init 37 = .ok (.newarray .int, 2) := by decide +kernel
theorem dX4_init_39 : decode cX4_init 39 = .ok (.putfield 22, 3) := by decide +kernel
theorem dX4_init_42 : decode cX4_init 42 = .ok (.aload_n 0, 1) := by decide +kernel
theorem dX4_init_43 : decode cX4_init 43 = .ok (.bipush 120, 2) := by decide +kernel
theorem dX4_init_45 : decode cX4_init 45 = .ok (.newarray .int, 2) := by decide +kernel
theorem dX4_init_47 : decode cX4_init 47 = .ok (.putfield 25, 3) := by decide +kernel
theorem dX4_init_50 : decode cX4_init 50 = .ok (.aload_n 0, 1) := by decide +kernel
theorem dX4_init_51 : decode cX4_init 51 = .ok (.bipush 120, 2) := by decide +kernel
theorem dX4_init_53 : decode cX4_init 53 = .ok (.newarray .int, 2) := by decide +kernel
theorem dX4_init_55 : decode cX4_init 55 = .ok (.putfield 28, 3) := by decide +kernel
theorem dX4_init_58 : decode cX4_init 58 = .ok (.aload_n 0, 1) := by decide +kernel
theorem dX4_init_59 : decode cX4_init 59 = .ok (.bipush 120, 2) := by decide +kernel
theorem dX4_init_61 : decode cX4_init 61 = .ok (.newarray .int, 2) := by decide +kernel
theorem dX4_init_63 : decode cX4_init 63 = .ok (.putfield 31, 3) := by decide +kernel
theorem dX4_init_66 : decode cX4_init 66 = .ok (.aload_n 0, 1) := by decide +kernel
theorem dX4_init_67 : decode cX4_init 67 = .ok (.bipush 120, 2) := by decide +kernel
theorem dX4_init_69 : decode cX4_init 69 = .ok (.newarray .int, 2) := by decide +kernel
theorem dX4_init_71 : decode cX4_init 71 = .ok (.putfield 34, 3) := by decide +kernel
theorem dX4_init_74 : decode cX4_init 74 = .ok (.aload_n 0, 1) := by decide +kernel
theorem dX4_init_75 : decode cX4_init 75 = .ok (.bipush 120, 2) := by decide +kernel
theorem dX4_init_77 : decode cX4_init 77 = .ok (.newarray .int, 2) := by decide +kernel
theorem dX4_init_79 : decode cX4_init 79 = .ok (.putfield 37, 3) := by decide +kernel
theorem dX4_init_82 : decode cX4_init 82 = .ok (.aload_n 0, 1) := by decide +kernel
theorem dX4_init_83 : decode cX4_init 83 = .ok (.bipush 120, 2) := by decide +kernel
theorem dX4_init_85 : decode cX4_init 85 = .ok (.newarray .boolean, 2) := by decide +kernel
theorem dX4_init_87 : decode cX4_init 87 = .ok (.putfield 40, 3) := by decide +kernel
theorem dX4_init_90 : decode cX4_init 90 = .ok (.aload_n 0, 1) := by decide +kernel
theorem dX4_init_91 : decode cX4_init 91 = .ok (.sipush 360, 3) := by decide +kernel
theorem dX4_init_94 : decode cX4_init 94 = .ok (.newarray .int, 2) := by decide +kernel
theorem dX4_init_96 : decode cX4_init 96 = .ok (.putfield 44, 3) := by decide +kernel
theorem dX4_init_99 : decode cX4_init 99 = .ok (.aload_n 0, 1) := by decide +kernel
theorem dX4_init_100 : decode cX4_init 100 = .ok (.iconst 3, 1) := by decide +kernel
theorem dX4_init_101 : decode cX4_init 101 = .ok (.newarray .int, 2) := by decide +kernel
theorem dX4_init_103 : decode cX4_init 103 = .ok (.putfield 47, 3) := by decide +kernel
theorem dX4_init_106 : decode cX4_init 106 = .ok (.aload_n 0, 1) := by decide +kernel
theorem dX4_init_107 : decode cX4_init 107 = .ok (.iconst 3, 1) := by decide +kernel
theorem dX4_init_108 : decode cX4_init 108 = .ok (.newarray .boolean, 2) := by decide +kernel
theorem dX4_init_110 : decode cX4_init 110 = .ok (.putfield 50, 3) := by decide +kernel
theorem dX4_init_113 : decode cX4_init 113 = .ok (.return_, 1) := by decide +kernel
theorem dX4_thrown_0 : decode cX4_thrown 0 = .ok (.aload_n 0, 1) := by decide +kernel
theorem dX4_thrown_1 : decode cX4_thrown 1 = .ok (.getfield 53, 3) := by decide +kernel
theorem dX4_thrown_4 : decode cX4_thrown 4 = .ok (.ireturn, 1) := by decide +kernel
theorem dX4_mark_0 : decode cX4_mark 0 = .ok (.iload_n 1, 1) := by decide +kernel
theorem dX4_mark_1 : decode cX4_mark 1 = .ok (.invokestatic 61, 3) := by decide +kernel
theorem dX4_mark_4 : decode cX4_mark 4 = .ok (.ifCond .ne 7, 3) := by decide +kernel
theorem dX4_mark_7 : decode cX4_mark 7 = .ok (.iconst 1, 1) := by decide +kernel
theorem dX4_mark_8 : decode cX4_mark 8 = .ok (.goto 4, 3) := by decide +kernel
theorem dX4_mark_11 : decode cX4_mark 11 = .ok (.iconst 0, 1) := by decide +kernel
theorem dX4_mark_12 : decode cX4_mark 12 = .ok (.istore 4, 2) := by decide +kernel
theorem dX4_mark_14 : decode cX4_mark 14 = .ok (.iload 4, 2) := by decide +kernel
theorem dX4_mark_16 : decode cX4_mark 16 = .ok (.ifCond .eq 7, 3) := by decide +kernel
theorem dX4_mark_19 : decode cX4_mark 19 = .ok (.iconst 0, 1) := by decide +kernel
theorem dX4_mark_20 : decode cX4_mark 20 = .ok (.goto 9, 3) := by decide +kernel
theorem dX4_mark_23 : decode cX4_mark 23 = .ok (.aload_n 0, 1) := by decide +kernel
theorem dX4_mark_24 : decode cX4_mark 24 = .ok (.getfield 13, 3) := by decide +kernel
theorem dX4_mark_27 : decode cX4_mark 27 = .ok (.iload_n 1, 1) := by decide +kernel
theorem dX4_mark_28 : decode cX4_mark 28 = .ok (.iaload, 1) := by decide +kernel
theorem dX4_mark_29 : decode cX4_mark 29 = .ok (.istore 5, 2) := by decide +kernel
theorem dX4_mark_31 : decode cX4_mark 31 = .ok (.iload 5, 2) := by decide +kernel
theorem dX4_mark_33 : decode cX4_mark 33 = .ok (.ifCond .le 15, 3) := by decide +kernel
theorem dX4_mark_36 : decode cX4_mark 36 = .ok (.bipush 6, 2) := by decide +kernel
theorem dX4_mark_38 : decode cX4_mark 38 = .ok (.iload_n 1, 1) := by decide +kernel
theorem dX4_mark_39 : decode cX4_mark 39 = .ok (.imul, 1) := by decide +kernel
theorem dX4_mark_40 : decode cX4_mark 40 = .ok (.iload 5, 2) := by decide +kernel
theorem dX4_mark_42 : decode cX4_mark 42 = .ok (.iadd, 1) := by decide +kernel
theorem dX4_mark_43 : decode cX4_mark 43 = .ok (.iconst 1, 1) := by decide +kernel
theorem dX4_mark_44 : decode cX4_mark 44 = .ok (.isub, 1) := by decide +kernel
theorem dX4_mark_45 : decode cX4_mark 45 = .ok (.goto 4, 3) := by decide +kernel
theorem dX4_mark_48 : decode cX4_mark 48 = .ok (.iconst 0, 1) := by decide +kernel
theorem dX4_mark_49 : decode cX4_mark 49 = .ok (.istore 6, 2) := by decide +kernel
theorem dX4_mark_51 : decode cX4_mark 51 = .ok (.iload 5, 2) := by decide +kernel
theorem dX4_mark_53 : decode cX4_mark 53 = .ok (.ifCond .le 29, 3) := by decide +kernel
theorem dX4_mark_56 : decode cX4_mark 56 = .ok (.iload_n 2, 1) := by decide +kernel
theorem dX4_mark_57 : decode cX4_mark 57 = .ok (.aload_n 0, 1) := by decide +kernel
theorem dX4_mark_58 : decode cX4_mark 58 = .ok (.getfield 16, 3) := by decide +kernel
theorem dX4_mark_61 : decode cX4_mark 61 = .ok (.iload 6, 2) := by decide +kernel
theorem dX4_mark_63 : decode cX4_mark 63 = .ok (.iaload, 1) := by decide +kernel
theorem dX4_mark_64 : decode cX4_mark 64 = .ok (.if_icmp .le 14, 3) := by decide +kernel
theorem dX4_mark_67 : decode cX4_mark 67 = .ok (.iload_n 3, 1) := by decide +kernel
theorem dX4_mark_68 : decode cX4_mark 68 = .ok (.aload_n 0, 1) := by decide +kernel
theorem dX4_mark_69 : decode cX4_mark 69 = .ok (.getfield 19, 3) := by decide +kernel
theorem dX4_mark_72 : decode cX4_mark 72 = .ok (.iload 6, 2) := by decide +kernel
theorem dX4_mark_74 : decode cX4_mark 74 = .ok (.iaload, 1) := by decide +kernel
theorem dX4_mark_75 : decode cX4_mark 75 = .ok (.if_icmp .ge 7, 3) := by decide +kernel
theorem dX4_mark_78 : decode cX4_mark 78 = .ok (.iconst 1, 1) := by decide +kernel
theorem dX4_mark_79 : decode cX4_mark 79 = .ok (.goto 4, 3) := by decide +kernel
theorem dX4_mark_82 : decode cX4_mark 82 = .ok (.iconst 0, 1) := by decide +kernel
theorem dX4_mark_83 : decode cX4_mark 83 = .ok (.istore 7, 2) := by decide +kernel
theorem dX4_mark_85 : decode cX4_mark 85 = .ok (.aload_n 0, 1) := by decide +kernel
theorem dX4_mark_86 : decode cX4_mark 86 = .ok (.iload 4, 2) := by decide +kernel
theorem dX4_mark_88 : decode cX4_mark 88 = .ok (.iload 5, 2) := by decide +kernel
theorem dX4_mark_90 : decode cX4_mark 90 = .ok (.bipush 6, 2) := by decide +kernel
theorem dX4_mark_92 : decode cX4_mark 92 = .ok (.if_icmp .ne 7, 3) := by decide +kernel
theorem dX4_mark_95 : decode cX4_mark 95 = .ok (.iconst 1, 1) := by decide +kernel
theorem dX4_mark_96 : decode cX4_mark 96 = .ok (.goto 4, 3) := by decide +kernel
theorem dX4_mark_99 : decode cX4_mark 99 = .ok (.iconst 0, 1) := by decide +kernel
theorem dX4_mark_100 : decode cX4_mark 100 = .ok (.iload_n 2, 1) := by decide +kernel
theorem dX4_mark_101 : decode cX4_mark 101 = .ok (.i2l, 1) := by decide +kernel
theorem dX4_mark_102 : decode cX4_mark 102 = .ok (.iconst 0, 1) := by decide +kernel
theorem dX4_mark_103 : decode cX4_mark 103 = .ok (.ldc 65, 2) := by decide +kernel
theorem dX4_mark_105 : decode cX4_mark 105 = .ok (.invokestatic 57, 3) := by decide +kernel
theorem dX4_mark_108 : decode cX4_mark 108 = .ok (.ifCond .eq 19, 3) := by decide +kernel
theorem dX4_mark_111 : decode cX4_mark 111 = .ok (.iload_n 3, 1) := by decide +kernel
theorem dX4_mark_112 : decode cX4_mark 112 = .ok (.i2l, 1) := by decide +kernel
theorem dX4_mark_113 : decode cX4_mark 113 = .ok (.iconst 0, 1) := by decide +kernel
theorem dX4_mark_114 : decode cX4_mark 114 = .ok (.ldc 65, 2) := by decide +kernel
theorem dX4_mark_116 : decode cX4_mark 116 = .ok (.invokestatic 57, 3) := by decide +kernel
theorem dX4_mark_119 : decode cX4_mark 119 = .ok (.ifCond .eq 8, 3) := by decide +kernel
theorem dX4_mark_122 : decode cX4_mark 122 = .ok (.iload 7, 2) := by decide +kernel
theorem dX4_mark_124 : decode cX4_mark 124 = .ok (.ifCond .eq 7, 3) := by decide +kernel
theorem dX4_mark_127 : decode cX4_mark 127 = .ok (.iconst 1, 1) := by decide +kernel
theorem dX4_mark_128 : decode cX4_mark 128 = .ok (.goto 4, 3) := by decide +kernel
theorem dX4_mark_131 : decode cX4_mark 131 = .ok (.iconst 0, 1) := by decide +kernel
theorem dX4_mark_132 : decode cX4_mark 132 = .ok (.iconst 0, 1) := by decide +kernel
theorem dX4_mark_133 : decode cX4_mark 133 = .ok (.invokevirtual 66, 3) := by decide +kernel
theorem dX4_mark_136 : decode cX4_mark 136 = .ok (.ifCond .eq 5, 3) := by decide +kernel
theorem dX4_mark_139 : decode cX4_mark 139 = .ok (.iconst 0, 1) := by decide +kernel
theorem dX4_mark_140 : decode cX4_mark 140 = .ok (.ireturn, 1) := by decide +kernel
theorem dX4_mark_141 : decode cX4_mark 141 = .ok (.aload_n 0, 1) := by decide +kernel
theorem dX4_mark_142 : decode cX4_mark 142 = .ok (.getfield 16, 3) := by decide +kernel
theorem dX4_mark_145 : decode cX4_mark 145 = .ok (.bipush 6, 2) := by decide +kernel
theorem dX4_mark_147 : decode cX4_mark 147 = .ok (.iload_n 1, 1) := by decide +kernel
theorem dX4_mark_148 : decode cX4_mark 148 = .ok (.imul, 1) := by decide +kernel
theorem dX4_mark_149 : decode cX4_mark 149 = .ok (.iload 5, 2) := by decide +kernel
theorem dX4_mark_151 : decode cX4_mark 151 = .ok (.iadd, 1) := by decide +kernel
theorem dX4_mark_152 : decode cX4_mark 152 = .ok (.iload_n 2, 1) := by decide +kernel
theorem dX4_mark_153 : decode cX4_mark 153 = .ok (.iastore, 1) := by decide +kernel
theorem dX4_mark_154 : decode cX4_mark 154 = .ok (.aload_n 0, 1) := by decide +kernel
theorem dX4_mark_155 : decode cX4_mark 155 = .ok (.getfield 19, 3) := by decide +kernel
theorem dX4_mark_158 : decode cX4_mark 158 = .ok (.bipush 6, 2) := by decide +kernel
theorem dX4_mark_160 : decode cX4_mark 160 = .ok (.iload_n 1, 1) := by decide +kernel
theorem dX4_mark_161 : decode cX4_mark 161 = .ok (.imul, 1) := by decide +kernel
theorem dX4_mark_162 : decode cX4_mark 162 = .ok (.iload 5, 2) := by decide +kernel
theorem dX4_mark_164 : decode cX4_mark 164 = .ok (.iadd, 1) := by decide +kernel
theorem dX4_mark_165 : decode cX4_mark 165 = .ok (.iload_n 3, 1) := by decide +kernel
theorem dX4_mark_166 : decode cX4_mark 166 = .ok (.iastore, 1) := by decide +kernel
theorem dX4_mark_167 : decode cX4_mark 167 = .ok (.aload_n 0, 1) := by decide +kernel
theorem dX4_mark_168 : decode cX4_mark 168 = .ok (.getfield 13, 3) := by decide +kernel
theorem dX4_mark_171 : decode cX4_mark 171 = .ok (.iload_n 1, 1) := by decide +kernel
theorem dX4_mark_172 : decode cX4_mark 172 = .ok (.dup2, 1) := by decide +kernel
theorem dX4_mark_173 : decode cX4_mark 173 = .ok (.iaload, 1) := by decide +kernel
theorem dX4_mark_174 : decode cX4_mark 174 = .ok (.iconst 1, 1) := by decide +kernel
theorem dX4_mark_175 : decode cX4_mark 175 = .ok (.iadd, 1) := by decide +kernel
theorem dX4_mark_176 : decode cX4_mark 176 = .ok (.iastore, 1) := by decide +kernel
theorem dX4_mark_177 : decode cX4_mark 177 = .ok (.aload_n 0, 1) := by decide +kernel
theorem dX4_mark_178 : decode cX4_mark 178 = .ok (.getfield 13, 3) := by decide +kernel
theorem dX4_mark_181 : decode cX4_mark 181 = .ok (.iload_n 1, 1) := by decide +kernel
theorem dX4_mark_182 : decode cX4_mark 182 = .ok (.iaload, 1) := by decide +kernel
theorem dX4_mark_183 : decode cX4_mark 183 = .ok (.ireturn, 1) := by decide +kernel
theorem dX4_isTeller_0 : decode cX4_isTeller 0 = .ok (.iload_n 0, 1) := by decide +kernel
theorem dX4_isTeller_1 : decode cX4_isTeller 1 = .ok (.i2l, 1) := by decide +kernel
theorem dX4_isTeller_2 : decode cX4_isTeller 2 = .ok (.iconst 0, 1) := by decide +kernel
theorem dX4_isTeller_3 : decode cX4_isTeller 3 = .ok (.iconst 4, 1) := by decide +kernel
theorem dX4_isTeller_4 : decode cX4_isTeller 4 = .ok (.invokestatic 57, 3) := by decide +kernel
theorem dX4_isTeller_7 : decode cX4_isTeller 7 = .ok (.ireturn, 1) := by decide +kernel
theorem dX4_in_0 : decode cX4_in 0 = .ok (.lload_n 0, 1) := by decide +kernel
theorem dX4_in_1 : decode cX4_in 1 = .ok (.iload_n 2, 1) := by decide +kernel
theorem dX4_in_2 : decode cX4_in 2 = .ok (.i2l, 1) := by decide +kernel
theorem dX4_in_3 : decode cX4_in 3 = .ok (.lcmp, 1) := by decide +kernel
theorem dX4_in_4 : decode cX4_in 4 = .ok (.ifCond .lt 14, 3) := by decide +kernel
theorem dX4_in_7 : decode cX4_in 7 = .ok (.lload_n 0, 1) := by decide +kernel
theorem dX4_in_8 : decode cX4_in 8 = .ok (.iload_n 3, 1) := by decide +kernel
theorem dX4_in_9 : decode cX4_in 9 = .ok (.i2l, 1) := by decide +kernel
theorem dX4_in_10 : decode cX4_in 10 = .ok (.lcmp, 1) := by decide +kernel
theorem dX4_in_11 : decode cX4_in 11 = .ok (.ifCond .gt 7, 3) := by decide +kernel
theorem dX4_in_14 : decode cX4_in 14 = .ok (.iconst 1, 1) := by decide +kernel
theorem dX4_in_15 : decode cX4_in 15 = .ok (.goto 4, 3) := by decide +kernel
theorem dX4_in_18 : decode cX4_in 18 = .ok (.iconst 0, 1) := by decide +kernel
theorem dX4_in_19 : decode cX4_in 19 = .ok (.ireturn, 1) := by decide +kernel
theorem dX4_throwing_0 : decode cX4_throwing 0 = .ok (.aload_n 0, 1) := by decide +kernel
theorem dX4_throwing_1 : decode cX4_throwing 1 = .ok (.iload_n 1, 1) := by decide +kernel
theorem dX4_throwing_2 : decode cX4_throwing 2 = .ok (.ifCond .eq 7, 3) := by decide +kernel
theorem dX4_throwing_5 : decode cX4_throwing 5 = .ok (.iconst 1, 1) := by decide +kernel
theorem dX4_throwing_6 : decode cX4_throwing 6 = .ok (.goto 29, 3) := by decide +kernel
theorem dX4_throwing_9 : decode cX4_throwing 9 = .ok (.iload_n 2, 1) := by decide +kernel
theorem dX4_throwing_10 : decode cX4_throwing 10 = .ok (.ifCond .eq 7, 3) := by decide +kernel
theorem dX4_throwing_13 : decode cX4_throwing 13 = .ok (.iconst 2, 1) := by decide +kernel
theorem dX4_throwing_14 : decode cX4_throwing 14 = .ok (.goto 21, 3) := by decide +kernel
theorem dX4_throwing_17 : decode cX4_throwing 17 = .ok (.iload_n 3, 1) := by decide +kernel
theorem dX4_throwing_18 : decode cX4_throwing 18 = .ok (.ifCond .eq 7, 3) := by decide +kernel
theorem dX4_throwing_21 : decode cX4_throwing 21 = .ok (.iconst 3, 1) := by decide +kernel
theorem dX4_throwing_22 : decode cX4_throwing 22 = .ok (.goto 13, 3) := by decide +kernel
theorem dX4_throwing_25 : decode cX4_throwing 25 = .ok (.iload 4, 2) := by decide +kernel
theorem dX4_throwing_27 : decode cX4_throwing 27 = .ok (.ifCond .eq 7, 3) := by decide +kernel
theorem dX4_throwing_30 : decode cX4_throwing 30 = .ok (.iconst 4, 1) := by decide +kernel
theorem dX4_throwing_31 : decode cX4_throwing 31 = .ok (.goto 4, 3) := by decide +kernel
theorem dX4_throwing_34 : decode cX4_throwing 34 = .ok (.iconst 0, 1) := by decide +kernel
theorem dX4_throwing_35 : decode cX4_throwing 35 = .ok (.putfield 53, 3) := by decide +kernel
theorem dX4_throwing_38 : decode cX4_throwing 38 = .ok (.aload_n 0, 1) := by decide +kernel
theorem dX4_throwing_39 : decode cX4_throwing 39 = .ok (.getfield 53, 3) := by decide +kernel
theorem dX4_throwing_42 : decode cX4_throwing 42 = .ok (.ifCond .le 7, 3) := by decide +kernel
theorem dX4_throwing_45 : decode cX4_throwing 45 = .ok (.iconst 1, 1) := by decide +kernel
theorem dX4_throwing_46 : decode cX4_throwing 46 = .ok (.goto 4, 3) := by decide +kernel
theorem dX4_throwing_49 : decode cX4_throwing 49 = .ok (.iconst 0, 1) := by decide +kernel
theorem dX4_throwing_50 : decode cX4_throwing 50 = .ok (.ireturn, 1) := by decide +kernel
theorem dX4_real_0 : decode cX4_real 0 = .ok (.aload_n 0, 1) := by decide +kernel
theorem dX4_real_1 : decode cX4_real 1 = .ok (.iload_n 1, 1) := by decide +kernel
theorem dX4_real_2 : decode cX4_real 2 = .ok (.invokestatic 61, 3) := by decide +kernel
theorem dX4_real_5 : decode cX4_real 5 = .ok (.ifCond .ne 7, 3) := by decide +kernel
theorem dX4_real_8 : decode cX4_real 8 = .ok (.iconst 1, 1) := by decide +kernel
theorem dX4_real_9 : decode cX4_real 9 = .ok (.goto 4, 3) := by decide +kernel
theorem dX4_real_12 : decode cX4_real 12 = .ok (.iconst 0, 1) := by decide +kernel
theorem dX4_real_13 : decode cX4_real 13 = .ok (.iload_n 2, 1) := by decide +kernel
theorem dX4_real_14 : decode cX4_real 14 = .ok (.i2l, 1) := by decide +kernel
theorem dX4_real_15 : decode cX4_real 15 = .ok (.iconst 0, 1) := by decide +kernel
theorem dX4_real_16 : decode cX4_real 16 = .ok (.ldc 65, 2) := by decide +kernel
theorem dX4_real_18 : decode cX4_real 18 = .ok (.invokestatic 57, 3) := by decide +kernel
theorem dX4_real_21 : decode cX4_real 21 = .ok (.ifCond .ne 7, 3) := by decide +kernel
theorem dX4_real_24 : decode cX4_real 24 = .ok (.iconst 1, 1) := by decide +kernel
theorem dX4_real_25 : decode cX4_real 25 = .ok (.goto 4, 3) := by decide +kernel
theorem dX4_real_28 : decode cX4_real 28 = .ok (.iconst 0, 1) := by decide +kernel
theorem dX4_real_29 : decode cX4_real 29 = .ok (.iconst 0, 1) := by decide +kernel
theorem dX4_real_30 : decode cX4_real 30 = .ok (.iconst 0, 1) := by decide +kernel
theorem dX4_real_31 : decode cX4_real 31 = .ok (.invokevirtual 66, 3) := by decide +kernel
theorem dX4_real_34 : decode cX4_real 34 = .ok (.ifCond .eq 5, 3) := by decide +kernel
theorem dX4_real_37 : decode cX4_real 37 = .ok (.iconst 0, 1) := by decide +kernel
theorem dX4_real_38 : decode cX4_real 38 = .ok (.ireturn, 1) := by decide +kernel
theorem dX4_real_39 : decode cX4_real 39 = .ok (.aload_n 0, 1) := by decide +kernel
theorem dX4_real_40 : decode cX4_real 40 = .ok (.iload_n 1, 1) := by decide +kernel
theorem dX4_real_41 : decode cX4_real 41 = .ok (.iload_n 2, 1) := by decide +kernel
theorem dX4_real_42 : decode cX4_real 42 = .ok (.invokevirtual 70, 3) := by decide +kernel
theorem dX4_real_45 : decode cX4_real 45 = .ok (.ireturn, 1) := by decide +kernel
theorem dX4_realOf_0 : decode cX4_realOf 0 = .ok (.aload_n 0, 1) := by decide +kernel
theorem dX4_realOf_1 : decode cX4_realOf 1 = .ok (.getfield 13, 3) := by decide +kernel
theorem dX4_realOf_4 : decode cX4_realOf 4 = .ok (.iload_n 1, 1) := by decide +kernel
theorem dX4_realOf_5 : decode cX4_realOf 5 = .ok (.iaload, 1) := by decide +kernel
theorem dX4_realOf_6 : decode cX4_realOf 6 = .ok (.ifCond .ne 5, 3) := by decide +kernel
theorem dX4_realOf_9 : decode cX4_realOf 9 = .ok (.iload_n 2, 1) := by decide +kernel
theorem dX4_realOf_10 : decode cX4_realOf 10 = .ok (.ireturn, 1) := by decide +kernel
theorem dX4_realOf_11 : decode cX4_realOf 11 = .ok (.bipush 6, 2) := by decide +kernel
theorem dX4_realOf_13 : decode cX4_realOf 13 = .ok (.iload_n 1, 1) := by decide +kernel
theorem dX4_realOf_14 : decode cX4_realOf 14 = .ok (.imul, 1) := by decide +kernel
theorem dX4_realOf_15 : decode cX4_realOf 15 = .ok (.istore_n 3, 1) := by decide +kernel
theorem dX4_realOf_16 : decode cX4_realOf 16 = .ok (.iload_n 3, 1) := by decide +kernel
theorem dX4_realOf_17 : decode cX4_realOf 17 = .ok (.aload_n 0, 1) := by decide +kernel
theorem dX4_realOf_18 : decode cX4_realOf 18 = .ok (.getfield 13, 3) := by decide +kernel
theorem dX4_realOf_21 : decode cX4_realOf 21 = .ok (.iload_n 1, 1) := by decide +kernel
theorem dX4_realOf_22 : decode cX4_realOf 22 = .ok (.iaload, 1) := by decide +kernel
theorem dX4_realOf_23 : decode cX4_realOf 23 = .ok (.iadd, 1) := by decide +kernel
theorem dX4_realOf_24 : decode cX4_realOf 24 = .ok (.iconst 1, 1) := by decide +kernel
theorem dX4_realOf_25 : decode cX4_realOf 25 = .ok (.isub, 1) := by decide +kernel
theorem dX4_realOf_26 : decode cX4_realOf 26 = .ok (.istore 4, 2) := by decide +kernel
theorem dX4_realOf_28 : decode cX4_realOf 28 = .ok (.iload_n 2, 1) := by decide +kernel
theorem dX4_realOf_29 : decode cX4_realOf 29 = .ok (.aload_n 0, 1) := by decide +kernel
theorem dX4_realOf_30 : decode cX4_realOf 30 = .ok (.getfield 16, 3) := by decide +kernel
theorem dX4_realOf_33 : decode cX4_realOf 33 = .ok (.iload_n 3, 1) := by decide +kernel
theorem dX4_realOf_34 : decode cX4_realOf 34 = .ok (.iaload, 1) := by decide +kernel
theorem dX4_realOf_35 : decode cX4_realOf 35 = .ok (.if_icmp .gt 19, 3) := by decide +kernel
theorem dX4_realOf_38 : decode cX4_realOf 38 = .ok (.iload_n 2, 1) := by decide +kernel
theorem dX4_realOf_39 : decode cX4_realOf 39 = .ok (.aload_n 0, 1) := by decide +kernel
theorem dX4_realOf_40 : decode cX4_realOf 40 = .ok (.getfield 19, 3) := by decide +kernel
theorem dX4_realOf_43 : decode cX4_realOf 43 = .ok (.iload_n 3, 1) := by decide +kernel
theorem dX4_realOf_44 : decode cX4_realOf 44 = .ok (.iaload, 1) := by decide +kernel
theorem dX4_realOf_45 : decode cX4_realOf 45 = .ok (.iadd, 1) := by decide +kernel
theorem dX4_realOf_46 : decode cX4_realOf 46 = .ok (.aload_n 0, 1) := by decide +kernel
theorem dX4_realOf_47 : decode cX4_realOf 47 = .ok (.getfield 16, 3) := by decide +kernel
theorem dX4_realOf_50 : decode cX4_realOf 50 = .ok (.iload_n 3, 1) := by decide +kernel
theorem dX4_realOf_51 : decode cX4_realOf 51 = .ok (.iaload, 1) := by decide +kernel
theorem dX4_realOf_52 : decode cX4_realOf 52 = .ok (.isub, 1) := by decide +kernel
theorem dX4_realOf_53 : decode cX4_realOf 53 = .ok (.ireturn, 1) := by decide +kernel
theorem dX4_realOf_54 : decode cX4_realOf 54 = .ok (.iload_n 2, 1) := by decide +kernel
theorem dX4_realOf_55 : decode cX4_realOf 55 = .ok (.aload_n 0, 1) := by decide +kernel
theorem dX4_realOf_56 : decode cX4_realOf 56 = .ok (.getfield 16, 3) := by decide +kernel
theorem dX4_realOf_59 : decode cX4_realOf 59 = .ok (.iload 4, 2) := by decide +kernel
theorem dX4_realOf_61 : decode cX4_realOf 61 = .ok (.iaload, 1) := by decide +kernel
theorem dX4_realOf_62 : decode cX4_realOf 62 = .ok (.if_icmp .lt 21, 3) := by decide +kernel
theorem dX4_realOf_65 : decode cX4_realOf 65 = .ok (.iload_n 2, 1) := by decide +kernel
theorem dX4_realOf_66 : decode cX4_realOf 66 = .ok (.aload_n 0, 1) := by decide +kernel
theorem dX4_realOf_67 : decode cX4_realOf 67 = .ok (.getfield 19, 3) := by decide +kernel
theorem dX4_realOf_70 : decode cX4_realOf 70 = .ok (.iload 4, 2) := by decide +kernel
theorem dX4_realOf_72 : decode cX4_realOf 72 = .ok (.iaload, 1) := by decide +kernel
theorem dX4_realOf_73 : decode cX4_realOf 73 = .ok (.iadd, 1) := by decide +kernel
theorem dX4_realOf_74 : decode cX4_realOf 74 = .ok (.aload_n 0, 1) := by decide +kernel
theorem dX4_realOf_75 : decode cX4_realOf 75 = .ok (.getfield 16, 3) := by decide +kernel
theorem dX4_realOf_78 : decode cX4_realOf 78 = .ok (.iload 4, 2) := by decide +kernel
theorem dX4_realOf_80 : decode cX4_realOf 80 = .ok (.iaload, 1) := by decide +kernel
theorem dX4_realOf_81 : decode cX4_realOf 81 = .ok (.isub, 1) := by decide +kernel
theorem dX4_realOf_82 : decode cX4_realOf 82 = .ok (.ireturn, 1) := by decide +kernel
theorem dX4_realOf_83 : decode cX4_realOf 83 = .ok (.iload_n 3, 1) := by decide +kernel
theorem dX4_realOf_84 : decode cX4_realOf 84 = .ok (.istore 5, 2) := by decide +kernel
theorem dX4_realOf_86 : decode cX4_realOf 86 = .ok (.aload_n 0, 1) := by decide +kernel
theorem dX4_realOf_87 : decode cX4_realOf 87 = .ok (.getfield 16, 3) := by decide +kernel
theorem dX4_realOf_90 : decode cX4_realOf 90 = .ok (.iload 5, 2) := by decide +kernel
theorem dX4_realOf_92 : decode cX4_realOf 92 = .ok (.iaload, 1) := by decide +kernel
theorem dX4_realOf_93 : decode cX4_realOf 93 = .ok (.iload_n 2, 1) := by decide +kernel
theorem dX4_realOf_94 : decode cX4_realOf 94 = .ok (.if_icmp .ge 9, 3) := by decide +kernel
theorem dX4_realOf_97 : decode cX4_realOf 97 = .ok (.iinc 5 1, 3) := by decide +kernel
theorem dX4_realOf_100 : decode cX4_realOf 100 = .ok (.goto (-14), 3) := by decide +kernel
theorem dX4_realOf_103 : decode cX4_realOf 103 = .ok (.iload 5, 2) := by decide +kernel
theorem dX4_realOf_105 : decode cX4_realOf 105 = .ok (.iconst 1, 1) := by decide +kernel
theorem dX4_realOf_106 : decode cX4_realOf 106 = .ok (.isub, 1) := by decide +kernel
theorem dX4_realOf_107 : decode cX4_realOf 107 = .ok (.istore 6, 2) := by decide +kernel
theorem dX4_realOf_109 : decode cX4_realOf 109 = .ok (.aload_n 0, 1) := by decide +kernel
theorem dX4_realOf_110 : decode cX4_realOf 110 = .ok (.getfield 19, 3) := by decide +kernel
theorem dX4_realOf_113 : decode cX4_realOf 113 = .ok (.iload 5, 2) := by decide +kernel
theorem dX4_realOf_115 : decode cX4_realOf 115 = .ok (.iaload, 1) := by decide +kernel
theorem dX4_realOf_116 : decode cX4_realOf 116 = .ok (.aload_n 0, 1) := by decide +kernel
theorem dX4_realOf_117 : decode cX4_realOf 117 = .ok (.getfield 19, 3) := by decide +kernel
theorem dX4_realOf_120 : decode cX4_realOf 120 = .ok (.iload 6, 2) := by decide +kernel
theorem dX4_realOf_122 : decode cX4_realOf 122 = .ok (.iaload, 1) := by decide +kernel
theorem dX4_realOf_123 : decode cX4_realOf 123 = .ok (.isub, 1) := by decide +kernel
theorem dX4_realOf_124 : decode cX4_realOf 124 = .ok (.i2l, 1) := by decide +kernel
theorem dX4_realOf_125 : decode cX4_realOf 125 = .ok (.iload_n 2, 1) := by decide +kernel
theorem dX4_realOf_126 : decode cX4_realOf 126 = .ok (.aload_n 0, 1) := by decide +kernel
theorem dX4_realOf_127 : decode cX4_realOf 127 = .ok (.getfield 16, 3) := by decide +kernel
theorem dX4_realOf_130 : decode cX4_realOf 130 = .ok (.iload 6, 2) := by decide +kernel
theorem dX4_realOf_132 : decode cX4_realOf 132 = .ok (.iaload, 1) := by decide +kernel
theorem dX4_realOf_133 : decode cX4_realOf 133 = .ok (.isub, 1) := by decide +kernel
theorem dX4_realOf_134 : decode cX4_realOf 134 = .ok (.i2l, 1) := by decide +kernel
theorem dX4_realOf_135 : decode cX4_realOf 135 = .ok (.lmul, 1) := by decide +kernel
theorem dX4_realOf_136 : decode cX4_realOf 136 = .ok (.lstore 7, 2) := by decide +kernel
theorem dX4_realOf_138 : decode cX4_realOf 138 = .ok (.aload_n 0, 1) := by decide +kernel
theorem dX4_realOf_139 : decode cX4_realOf 139 = .ok (.getfield 19, 3) := by decide +kernel
theorem dX4_realOf_142 : decode cX4_realOf 142 = .ok (.iload 6, 2) := by decide +kernel
theorem dX4_realOf_144 : decode cX4_realOf 144 = .ok (.iaload, 1) := by decide +kernel
theorem dX4_realOf_145 : decode cX4_realOf 145 = .ok (.lload 7, 2) := by decide +kernel
theorem dX4_realOf_147 : decode cX4_realOf 147 = .ok (.aload_n 0, 1) := by decide +kernel
theorem dX4_realOf_148 : decode cX4_realOf 148 = .ok (.getfield 16, 3) := by decide +kernel
theorem dX4_realOf_151 : decode cX4_realOf 151 = .ok (.iload 5, 2) := by decide +kernel
theorem dX4_realOf_153 : decode cX4_realOf 153 = .ok (.iaload, 1) := by decide +kernel
theorem dX4_realOf_154 : decode cX4_realOf 154 = .ok (.aload_n 0, 1) := by decide +kernel
theorem dX4_realOf_155 : decode cX4_realOf 155 = .ok (.getfield 16, 3) := by decide +kernel
theorem dX4_realOf_158 : decode cX4_realOf 158 = .ok (.iload 6, 2) := by decide +kernel
theorem dX4_realOf_160 : decode cX4_realOf 160 = .ok (.iaload, 1) := by decide +kernel
theorem dX4_realOf_161 : decode cX4_realOf 161 = .ok (.isub, 1) := by decide +kernel
theorem dX4_realOf_162 : decode cX4_realOf 162 = .ok (.i2l, 1) := by decide +kernel
theorem dX4_realOf_163 : decode cX4_realOf 163 = .ok (.ldiv, 1) := by decide +kernel
theorem dX4_realOf_164 : decode cX4_realOf 164 = .ok (.l2i, 1) := by decide +kernel
theorem dX4_realOf_165 : decode cX4_realOf 165 = .ok (.iadd, 1) := by decide +kernel
theorem dX4_realOf_166 : decode cX4_realOf 166 = .ok (.ireturn, 1) := by decide +kernel
theorem dX4_tell_0 : decode cX4_tell 0 = .ok (.iload_n 1, 1) := by decide +kernel
theorem dX4_tell_1 : decode cX4_tell 1 = .ok (.invokestatic 77, 3) := by decide +kernel
theorem dX4_tell_4 : decode cX4_tell 4 = .ok (.ifCond .eq 10, 3) := by decide +kernel
theorem dX4_tell_7 : decode cX4_tell 7 = .ok (.iload_n 2, 1) := by decide +kernel
theorem dX4_tell_8 : decode cX4_tell 8 = .ok (.invokestatic 61, 3) := by decide +kernel
theorem dX4_tell_11 : decode cX4_tell 11 = .ok (.ifCond .ne 7, 3) := by decide +kernel
theorem dX4_tell_14 : decode cX4_tell 14 = .ok (.iconst 1, 1) := by decide +kernel
theorem dX4_tell_15 : decode cX4_tell 15 = .ok (.goto 4, 3) := by decide +kernel
theorem dX4_tell_18 : decode cX4_tell 18 = .ok (.iconst 0, 1) := by decide +kernel
theorem dX4_tell_19 : decode cX4_tell 19 = .ok (.istore 6, 2) := by decide +kernel
theorem dX4_tell_21 : decode cX4_tell 21 = .ok (.lload_n 3, 1) := by decide +kernel
theorem dX4_tell_22 : decode cX4_tell 22 = .ok (.ldc2_w 80, 3) := by decide +kernel
theorem dX4_tell_25 : decode cX4_tell 25 = .ok (.land, 1) := by decide +kernel
theorem dX4_tell_26 : decode cX4_tell 26 = .ok (.l2i, 1) := by decide +kernel
theorem dX4_tell_27 : decode cX4_tell 27 = .ok (.istore 7, 2) := by decide +kernel
theorem dX4_tell_29 : decode cX4_tell 29 = .ok (.lload_n 3, 1) := by decide +kernel
theorem dX4_tell_30 : decode cX4_tell 30 = .ok (.bipush 20, 2) := by decide +kernel
theorem dX4_tell_32 : decode cX4_tell 32 = .ok (.lshr, 1) := by decide +kernel
theorem dX4_tell_33 : decode cX4_tell 33 = .ok (.ldc2_w 82, 3) := by decide +kernel
theorem dX4_tell_36 : decode cX4_tell 36 = .ok (.land, 1) := by decide +kernel
theorem dX4_tell_37 : decode cX4_tell 37 = .ok (.l2i, 1) := by decide +kernel
theorem dX4_tell_38 : decode cX4_tell 38 = .ok (.istore 8, 2) := by decide +kernel
theorem dX4_tell_40 : decode cX4_tell 40 = .ok (.lload_n 3, 1) := by decide +kernel
theorem dX4_tell_41 : decode cX4_tell 41 = .ok (.bipush 23, 2) := by decide +kernel
theorem dX4_tell_43 : decode cX4_tell 43 = .ok (.lshr, 1) := by decide +kernel
theorem dX4_tell_44 : decode cX4_tell 44 = .ok (.ldc2_w 84, 3) := by decide +kernel
theorem dX4_tell_47 : decode cX4_tell 47 = .ok (.land, 1) := by decide +kernel
theorem dX4_tell_48 : decode cX4_tell 48 = .ok (.l2i, 1) := by decide +kernel
theorem dX4_tell_49 : decode cX4_tell 49 = .ok (.istore 9, 2) := by decide +kernel
theorem dX4_tell_51 : decode cX4_tell 51 = .ok (.iload 7, 2) := by decide +kernel
theorem dX4_tell_53 : decode cX4_tell 53 = .ok (.ldc 65, 2) := by decide +kernel
theorem dX4_tell_55 : decode cX4_tell 55 = .ok (.if_icmp .gt 19, 3) := by decide +kernel
theorem dX4_tell_58 : decode cX4_tell 58 = .ok (.iload 9, 2) := by decide +kernel
theorem dX4_tell_60 : decode cX4_tell 60 = .ok (.bipush 99, 2) := by decide +kernel
theorem dX4_tell_62 : decode cX4_tell 62 = .ok (.if_icmp .gt 12, 3) := by decide +kernel
theorem dX4_tell_65 : decode cX4_tell 65 = .ok (.lload_n 3, 1) := by decide +kernel
theorem dX4_tell_66 : decode cX4_tell 66 = .ok (.bipush 30, 2) := by decide +kernel
theorem dX4_tell_68 : decode cX4_tell 68 = .ok (.lshr, 1) := by decide +kernel
theorem dX4_tell_69 : decode cX4_tell 69 = .ok (.lconst 0, 1) := by decide +kernel
theorem dX4_tell_70 : decode cX4_tell 70 = .ok (.lcmp, 1) := by decide +kernel
theorem dX4_tell_71 : decode cX4_tell 71 = .ok (.ifCond .eq 7, 3) := by decide +kernel
theorem dX4_tell_74 : decode cX4_tell 74 = .ok (.iconst 1, 1) := by decide +kernel
theorem dX4_tell_75 : decode cX4_tell 75 = .ok (.goto 4, 3) := by decide +kernel
theorem dX4_tell_78 : decode cX4_tell 78 = .ok (.iconst 0, 1) := by decide +kernel
theorem dX4_tell_79 : decode cX4_tell 79 = .ok (.istore 10, 2) := by decide +kernel
theorem dX4_tell_81 : decode cX4_tell 81 = .ok (.iload 6, 2) := by decide +kernel
theorem dX4_tell_83 : decode cX4_tell 83 = .ok (.ifCond .eq 7, 3) := by decide +kernel
theorem dX4_tell_86 : decode cX4_tell 86 = .ok (.iconst 0, 1) := by decide +kernel
theorem dX4_tell_87 : decode cX4_tell 87 = .ok (.goto 16, 3) := by decide +kernel
theorem dX4_tell_90 : decode cX4_tell 90 = .ok (.aload_n 0, 1) := by decide +kernel
theorem dX4_tell_91 : decode cX4_tell 91 = .ok (.iload_n 2, 1) := by decide +kernel
theorem dX4_tell_92 : decode cX4_tell 92 = .ok (.iload 7, 2) := by decide +kernel
theorem dX4_tell_94 : decode cX4_tell 94 = .ok (.iload 8, 2) := by decide +kernel
theorem dX4_tell_96 : decode cX4_tell 96 = .ok (.iload 9, 2) := by decide +kernel
theorem dX4_tell_98 : decode cX4_tell 98 = .ok (.iload 5, 2) := by decide +kernel
theorem dX4_tell_100 : decode cX4_tell 100 = .ok (.invokevirtual 86, 3) := by decide +kernel
theorem dX4_tell_103 : decode cX4_tell 103 = .ok (.istore 11, 2) := by decide +kernel
theorem dX4_tell_105 : decode cX4_tell 105 = .ok (.aload_n 0, 1) := by decide +kernel
theorem dX4_tell_106 : decode cX4_tell 106 = .ok (.iload 6, 2) := by decide +kernel
theorem dX4_tell_108 : decode cX4_tell 108 = .ok (.iload 10, 2) := by decide +kernel
theorem dX4_tell_110 : decode cX4_tell 110 = .ok (.iload 6, 2) := by decide +kernel
theorem dX4_tell_112 : decode cX4_tell 112 = .ok (.ifCond .ne 14, 3) := by decide +kernel
theorem dX4_tell_115 : decode cX4_tell 115 = .ok (.iload 11, 2) := by decide +kernel
theorem dX4_tell_117 : decode cX4_tell 117 = .ok (.bipush 120, 2) := by decide +kernel
theorem dX4_tell_119 : decode cX4_tell 119 = .ok (.if_icmp .ne 7, 3) := by decide +kernel
theorem dX4_tell_122 : decode cX4_tell 122 = .ok (.iconst 1, 1) := by decide +kernel
theorem dX4_tell_123 : decode cX4_tell 123 = .ok (.goto 4, 3) := by decide +kernel
theorem dX4_tell_126 : decode cX4_tell 126 = .ok (.iconst 0, 1) := by decide +kernel
theorem dX4_tell_127 : decode cX4_tell 127 = .ok (.iconst 0, 1) := by decide +kernel
theorem dX4_tell_128 : decode cX4_tell 128 = .ok (.invokevirtual 66, 3) := by decide +kernel
theorem dX4_tell_131 : decode cX4_tell 131 = .ok (.ifCond .eq 5, 3) := by decide +kernel
theorem dX4_tell_134 : decode cX4_tell 134 = .ok (.iconst 0, 1) := by decide +kernel
theorem dX4_tell_135 : decode cX4_tell 135 = .ok (.ireturn, 1) := by decide +kernel
theorem dX4_tell_136 : decode cX4_tell 136 = .ok (.iload 11, 2) := by decide +kernel
theorem dX4_tell_138 : decode cX4_tell 138 = .ok (.aload_n 0, 1) := by decide +kernel
theorem dX4_tell_139 : decode cX4_tell 139 = .ok (.getfield 74, 3) := by decide +kernel
theorem dX4_tell_142 : decode cX4_tell 142 = .ok (.if_icmp .ne 78, 3) := by decide +kernel
theorem dX4_tell_145 : decode cX4_tell 145 = .ok (.aload_n 0, 1) := by decide +kernel
theorem dX4_tell_146 : decode cX4_tell 146 = .ok (.getfield 22, 3) := by decide +kernel
theorem dX4_tell_149 : decode cX4_tell 149 = .ok (.iload 11, 2) := by decide +kernel
theorem dX4_tell_151 : decode cX4_tell 151 = .ok (.iload_n 2, 1) := by decide +kernel
theorem dX4_tell_152 : decode cX4_tell 152 = .ok (.iastore, 1) := by decide +kernel
theorem dX4_tell_153 : decode cX4_tell 153 = .ok (.aload_n 0, 1) := by decide +kernel
theorem dX4_tell_154 : decode cX4_tell 154 = .ok (.getfield 25, 3) := by decide +kernel
theorem dX4_tell_157 : decode cX4_tell 157 = .ok (.iload 11, 2) := by decide +kernel
theorem dX4_tell_159 : decode cX4_tell 159 = .ok (.aload_n 0, 1) := by decide +kernel
theorem dX4_tell_160 : decode cX4_tell 160 = .ok (.getfield 7, 3) := by decide +kernel
theorem dX4_tell_163 : decode cX4_tell 163 = .ok (.iload_n 2, 1) := by decide +kernel
theorem dX4_tell_164 : decode cX4_tell 164 = .ok (.iaload, 1) := by decide +kernel
theorem dX4_tell_165 : decode cX4_tell 165 = .ok (.iastore, 1) := by decide +kernel
theorem dX4_tell_166 : decode cX4_tell 166 = .ok (.aload_n 0, 1) := by decide +kernel
theorem dX4_tell_167 : decode cX4_tell 167 = .ok (.getfield 28, 3) := by decide +kernel
theorem dX4_tell_170 : decode cX4_tell 170 = .ok (.iload 11, 2) := by decide +kernel
theorem dX4_tell_172 : decode cX4_tell 172 = .ok (.iload 9, 2) := by decide +kernel
theorem dX4_tell_174 : decode cX4_tell 174 = .ok (.iastore, 1) := by decide +kernel
theorem dX4_tell_175 : decode cX4_tell 175 = .ok (.aload_n 0, 1) := by decide +kernel
theorem dX4_tell_176 : decode cX4_tell 176 = .ok (.getfield 31, 3) := by decide +kernel
theorem dX4_tell_179 : decode cX4_tell 179 = .ok (.iload 11, 2) := by decide +kernel
theorem dX4_tell_181 : decode cX4_tell 181 = .ok (.iload 8, 2) := by decide +kernel
theorem dX4_tell_183 : decode cX4_tell 183 = .ok (.iastore, 1) := by decide +kernel
theorem dX4_tell_184 : decode cX4_tell 184 = .ok (.aload_n 0, 1) := by decide +kernel
theorem dX4_tell_185 : decode cX4_tell 185 = .ok (.getfield 34, 3) := by decide +kernel
theorem dX4_tell_188 : decode cX4_tell 188 = .ok (.iload 11, 2) := by decide +kernel
theorem dX4_tell_190 : decode cX4_tell 190 = .ok (.iload 5, 2) := by decide +kernel
theorem dX4_tell_192 : decode cX4_tell 192 = .ok (.iastore, 1) := by decide +kernel
theorem dX4_tell_193 : decode cX4_tell 193 = .ok (.aload_n 0, 1) := by decide +kernel
theorem dX4_tell_194 : decode cX4_tell 194 = .ok (.getfield 37, 3) := by decide +kernel
theorem dX4_tell_197 : decode cX4_tell 197 = .ok (.iload 11, 2) := by decide +kernel
theorem dX4_tell_199 : decode cX4_tell 199 = .ok (.iload 7, 2) := by decide +kernel
theorem dX4_tell_201 : decode cX4_tell 201 = .ok (.iastore, 1) := by decide +kernel
theorem dX4_tell_202 : decode cX4_tell 202 = .ok (.aload_n 0, 1) := by decide +kernel
theorem dX4_tell_203 : decode cX4_tell 203 = .ok (.getfield 40, 3) := by decide +kernel
theorem dX4_tell_206 : decode cX4_tell 206 = .ok (.iload 11, 2) := by decide +kernel
theorem dX4_tell_208 : decode cX4_tell 208 = .ok (.iconst 0, 1) := by decide +kernel
theorem dX4_tell_209 : decode cX4_tell 209 = .ok (.bastore, 1) := by decide +kernel
theorem dX4_tell_210 : decode cX4_tell 210 = .ok (.aload_n 0, 1) := by decide +kernel
theorem dX4_tell_211 : decode cX4_tell 211 = .ok (.dup, 1) := by decide +kernel
theorem dX4_tell_212 : decode cX4_tell 212 = .ok (.getfield 74, 3) := by decide +kernel
theorem dX4_tell_215 : decode cX4_tell 215 = .ok (.iconst 1, 1) := by decide +kernel
theorem dX4_tell_216 : decode cX4_tell 216 = .ok (.iadd, 1) := by decide +kernel
theorem dX4_tell_217 : decode cX4_tell 217 = .ok (.putfield 74, 3) := by decide +kernel
theorem dX4_tell_220 : decode cX4_tell 220 = .ok (.aload_n 0, 1) := by decide +kernel
theorem dX4_tell_221 : decode cX4_tell 221 = .ok (.iload_n 1, 1) := by decide +kernel
theorem dX4_tell_222 : decode cX4_tell 222 = .ok (.iload 11, 2) := by decide +kernel
theorem dX4_tell_224 : decode cX4_tell 224 = .ok (.invokevirtual 90, 3) := by decide +kernel
theorem dX4_tell_227 : decode cX4_tell 227 = .ok (.ifCond .eq 5, 3) := by decide +kernel
theorem dX4_tell_230 : decode cX4_tell 230 = .ok (.iconst 1, 1) := by decide +kernel
theorem dX4_tell_231 : decode cX4_tell 231 = .ok (.ireturn, 1) := by decide +kernel
theorem dX4_tell_232 : decode cX4_tell 232 = .ok (.iconst 0, 1) := by decide +kernel
theorem dX4_tell_233 : decode cX4_tell 233 = .ok (.istore 12, 2) := by decide +kernel
theorem dX4_tell_235 : decode cX4_tell 235 = .ok (.iconst 0, 1) := by decide +kernel
theorem dX4_tell_236 : decode cX4_tell 236 = .ok (.istore 13, 2) := by decide +kernel
theorem dX4_tell_238 : decode cX4_tell 238 = .ok (.iload 13, 2) := by decide +kernel
theorem dX4_tell_240 : decode cX4_tell 240 = .ok (.aload_n 0, 1) := by decide +kernel
theorem dX4_tell_241 : decode cX4_tell 241 = .ok (.getfield 74, 3) := by decide +kernel
theorem dX4_tell_244 : decode cX4_tell 244 = .ok (.if_icmp .ge 42, 3) := by decide +kernel
theorem dX4_tell_247 : decode cX4_tell 247 = .ok (.iload 12, 2) := by decide +kernel
theorem dX4_tell_249 : decode cX4_tell 249 = .ok (.ifCond .ne 24, 3) := by decide +kernel
theorem dX4_tell_252 : decode cX4_tell 252 = .ok (.aload_n 0, 1) := by decide +kernel
theorem dX4_tell_253 : decode cX4_tell 253 = .ok (.iload 11, 2) := by decide +kernel
theorem dX4_tell_255 : decode cX4_tell 255 = .ok (.iload 13, 2) := by decide +kernel
theorem dX4_tell_257 : decode cX4_tell 257 = .ok (.invokevirtual 94, 3) := by decide +kernel
theorem dX4_tell_260 : decode cX4_tell 260 = .ok (.ifCond .eq 17, 3) := by decide +kernel
theorem dX4_tell_263 : decode cX4_tell 263 = .ok (.aload_n 0, 1) := by decide +kernel
theorem dX4_tell_264 : decode cX4_tell 264 = .ok (.iload_n 1, 1) := by decide +kernel
theorem dX4_tell_265 : decode cX4_tell 265 = .ok (.iload 13, 2) := by decide +kernel
theorem dX4_tell_267 : decode cX4_tell 267 = .ok (.invokevirtual 90, 3) := by decide +kernel
theorem dX4_tell_270 : decode cX4_tell 270 = .ok (.ifCond .eq 7, 3) := by decide +kernel
theorem dX4_tell_273 : decode cX4_tell 273 = .ok (.iconst 1, 1) := by decide +kernel
theorem dX4_tell_274 : decode cX4_tell 274 = .ok (.goto 4, 3) := by decide +kernel
theorem dX4_tell_277 : decode cX4_tell 277 = .ok (.iconst 0, 1) := by decide +kernel
theorem dX4_tell_278 : decode cX4_tell 278 = .ok (.istore 12, 2) := by decide +kernel
theorem dX4_tell_280 : decode cX4_tell 280 = .ok (.iinc 13 1, 3) := by decide +kernel
theorem dX4_tell_283 : decode cX4_tell 283 = .ok (.goto (-45), 3) := by decide +kernel
theorem dX4_tell_286 : decode cX4_tell 286 = .ok (.aload_n 0, 1) := by decide +kernel
theorem dX4_tell_287 : decode cX4_tell 287 = .ok (.iload_n 1, 1) := by decide +kernel
theorem dX4_tell_288 : decode cX4_tell 288 = .ok (.iload 11, 2) := by decide +kernel
theorem dX4_tell_290 : decode cX4_tell 290 = .ok (.invokevirtual 97, 3) := by decide +kernel
theorem dX4_tell_293 : decode cX4_tell 293 = .ok (.iload 12, 2) := by decide +kernel
theorem dX4_tell_295 : decode cX4_tell 295 = .ok (.ifCond .eq 7, 3) := by decide +kernel
theorem dX4_tell_298 : decode cX4_tell 298 = .ok (.iconst 2, 1) := by decide +kernel
theorem dX4_tell_299 : decode cX4_tell 299 = .ok (.goto 4, 3) := by decide +kernel
theorem dX4_tell_302 : decode cX4_tell 302 = .ok (.iconst 0, 1) := by decide +kernel
theorem dX4_tell_303 : decode cX4_tell 303 = .ok (.ireturn, 1) := by decide +kernel
theorem dX4_isDesk_0 : decode cX4_isDesk 0 = .ok (.iload_n 0, 1) := by decide +kernel
theorem dX4_isDesk_1 : decode cX4_isDesk 1 = .ok (.i2l, 1) := by decide +kernel
theorem dX4_isDesk_2 : decode cX4_isDesk 2 = .ok (.iconst 0, 1) := by decide +kernel
theorem dX4_isDesk_3 : decode cX4_isDesk 3 = .ok (.iconst 2, 1) := by decide +kernel
theorem dX4_isDesk_4 : decode cX4_isDesk 4 = .ok (.invokestatic 57, 3) := by decide +kernel
theorem dX4_isDesk_7 : decode cX4_isDesk 7 = .ok (.ireturn, 1) := by decide +kernel
theorem dX4_find_0 : decode cX4_find 0 = .ok (.iconst 0, 1) := by decide +kernel
theorem dX4_find_1 : decode cX4_find 1 = .ok (.istore 6, 2) := by decide +kernel
theorem dX4_find_3 : decode cX4_find 3 = .ok (.iload 6, 2) := by decide +kernel
theorem dX4_find_5 : decode cX4_find 5 = .ok (.aload_n 0, 1) := by decide +kernel
theorem dX4_find_6 : decode cX4_find 6 = .ok (.getfield 74, 3) := by decide +kernel
theorem dX4_find_9 : decode cX4_find 9 = .ok (.if_icmp .ge 97, 3) := by decide +kernel
theorem dX4_find_12 : decode cX4_find 12 = .ok (.aload_n 0, 1) := by decide +kernel
theorem dX4_find_13 : decode cX4_find 13 = .ok (.getfield 22, 3) := by decide +kernel
theorem dX4_find_16 : decode cX4_find 16 = .ok (.iload 6, 2) := by decide +kernel
theorem dX4_find_18 : decode cX4_find 18 = .ok (.iaload, 1) := by decide +kernel
theorem dX4_find_19 : decode cX4_find 19 = .ok (.iload_n 1, 1) := by decide +kernel
theorem dX4_find_20 : decode cX4_find 20 = .ok (.if_icmp .ne 35, 3) := by decide +kernel
theorem dX4_find_23 : decode cX4_find 23 = .ok (.aload_n 0, 1) := by decide +kernel
theorem dX4_find_24 : decode cX4_find 24 = .ok (.getfield 25, 3) := by decide +kernel
theorem dX4_find_27 : decode cX4_find 27 = .ok (.iload 6, 2) := by decide +kernel
theorem dX4_find_29 : decode cX4_find 29 = .ok (.iaload, 1) := by decide +kernel
theorem dX4_find_30 : decode cX4_find 30 = .ok (.aload_n 0, 1) := by decide +kernel
theorem dX4_find_31 : decode cX4_find 31 = .ok (.getfield 7, 3) := by decide +kernel
theorem dX4_find_34 : decode cX4_find 34 = .ok (.iload_n 1, 1) := by decide +kernel
theorem dX4_find_35 : decode cX4_find 35 = .ok (.iaload, 1) := by decide +kernel
theorem dX4_find_36 : decode cX4_find 36 = .ok (.if_icmp .ne 19, 3) := by decide +kernel
theorem dX4_find_39 : decode cX4_find 39 = .ok (.aload_n 0, 1) := by decide +kernel
theorem dX4_find_40 : decode cX4_find 40 = .ok (.getfield 28, 3) := by decide +kernel
theorem dX4_find_43 : decode cX4_find 43 = .ok (.iload 6, 2) := by decide +kernel
theorem dX4_find_45 : decode cX4_find 45 = .ok (.iaload, 1) := by decide +kernel
theorem dX4_find_46 : decode cX4_find 46 = .ok (.iload 4, 2) := by decide +kernel
theorem dX4_find_48 : decode cX4_find 48 = .ok (.if_icmp .ne 7, 3) := by decide +kernel
theorem dX4_find_51 : decode cX4_find 51 = .ok (.iconst 1, 1) := by decide +kernel
theorem dX4_find_52 : decode cX4_find 52 = .ok (.goto 4, 3) := by decide +kernel
theorem dX4_find_55 : decode cX4_find 55 = .ok (.iconst 0, 1) := by decide +kernel
theorem dX4_find_56 : decode cX4_find 56 = .ok (.istore 7, 2) := by decide +kernel
theorem dX4_find_58 : decode cX4_find 58 = .ok (.iload 7, 2) := by decide +kernel
theorem dX4_find_60 : decode cX4_find 60 = .ok (.ifCond .eq 40, 3) := by decide +kernel
theorem dX4_find_63 : decode cX4_find 63 = .ok (.aload_n 0, 1) := by decide +kernel
theorem dX4_find_64 : decode cX4_find 64 = .ok (.getfield 31, 3) := by decide +kernel
theorem dX4_find_67 : decode cX4_find 67 = .ok (.iload 6, 2) := by decide +kernel
theorem dX4_find_69 : decode cX4_find 69 = .ok (.iaload, 1) := by decide +kernel
theorem dX4_find_70 : decode cX4_find 70 = .ok (.iload_n 3, 1) := by decide +kernel
theorem dX4_find_71 : decode cX4_find 71 = .ok (.if_icmp .ne 29, 3) := by decide +kernel
theorem dX4_find_74 : decode cX4_find 74 = .ok (.aload_n 0, 1) := by decide +kernel
theorem dX4_find_75 : decode cX4_find 75 = .ok (.getfield 34, 3) := by decide +kernel
theorem dX4_find_78 : decode cX4_find 78 = .ok (.iload 6, 2) := by decide +kernel
theorem dX4_find_80 : decode cX4_find 80 = .ok (.iaload, 1) := by decide +kernel
theorem dX4_find_81 : decode cX4_find 81 = .ok (.iload 5, 2) := by decide +kernel
theorem dX4_find_83 : decode cX4_find 83 = .ok (.if_icmp .ne 17, 3) := by decide +kernel
theorem dX4_find_86 : decode cX4_find 86 = .ok (.aload_n 0, 1) := by decide +kernel
theorem dX4_find_87 : decode cX4_find 87 = .ok (.getfield 37, 3) := by decide +kernel
theorem dX4_find_90 : decode cX4_find 90 = .ok (.iload 6, 2) := by decide +kernel
theorem dX4_find_92 : decode cX4_find 92 = .ok (.iaload, 1) := by decide +kernel
theorem dX4_find_93 : decode cX4_find 93 = .ok (.iload_n 2, 1) := by decide +kernel
theorem dX4_find_94 : decode cX4_find 94 = .ok (.if_icmp .ne 6, 3) := by decide +kernel
theorem dX4_find_97 : decode cX4_find 97 = .ok (.iload 6, 2) := by decide +kernel
theorem dX4_find_99 : decode cX4_find 99 = .ok (.ireturn, 1) := by decide +kernel
theorem dX4_find_100 : decode cX4_find 100 = .ok (.iinc 6 1, 3) := by decide +kernel
theorem dX4_find_103 : decode cX4_find 103 = .ok (.goto (-100), 3) := by decide +kernel
theorem dX4_find_106 : decode cX4_find 106 = .ok (.aload_n 0, 1) := by decide +kernel
theorem dX4_find_107 : decode cX4_find 107 = .ok (.getfield 74, 3) := by decide +kernel
theorem dX4_find_110 : decode cX4_find 110 = .ok (.ireturn, 1) := by decide +kernel
theorem dX4_has_0 : decode cX4_has 0 = .ok (.aload_n 0, 1) := by decide +kernel
theorem dX4_has_1 : decode cX4_has 1 = .ok (.getfield 44, 3) := by decide +kernel
theorem dX4_has_4 : decode cX4_has 4 = .ok (.bipush 120, 2) := by decide +kernel
theorem dX4_has_6 : decode cX4_has 6 = .ok (.iload_n 1, 1) := by decide +kernel
theorem dX4_has_7 : decode cX4_has 7 = .ok (.imul, 1) := by decide +kernel
theorem dX4_has_8 : decode cX4_has 8 = .ok (.iload_n 2, 1) := by decide +kernel
theorem dX4_has_9 : decode cX4_has 9 = .ok (.iadd, 1) := by decide +kernel
theorem dX4_has_10 : decode cX4_has 10 = .ok (.iaload, 1) := by decide +kernel
theorem dX4_has_11 : decode cX4_has 11 = .ok (.ifCond .eq 7, 3) := by decide +kernel
theorem dX4_has_14 : decode cX4_has 14 = .ok (.iconst 1, 1) := by decide +kernel
theorem dX4_has_15 : decode cX4_has 15 = .ok (.goto 4, 3) := by decide +kernel
theorem dX4_has_18 : decode cX4_has 18 = .ok (.iconst 0, 1) := by decide +kernel
theorem dX4_has_19 : decode cX4_has 19 = .ok (.ireturn, 1) := by decide +kernel
theorem dX4_areRivals_0 : decode cX4_areRivals 0 = .ok (.iload_n 1, 1) := by decide +kernel
theorem dX4_areRivals_1 : decode cX4_areRivals 1 = .ok (.iload_n 2, 1) := by decide +kernel
theorem dX4_areRivals_2 : decode cX4_areRivals 2 = .ok (.if_icmp .eq 52, 3) := by decide +kernel
theorem dX4_areRivals_5 : decode cX4_areRivals 5 = .ok (.aload_n 0, 1) := by decide +kernel
theorem dX4_areRivals_6 : decode cX4_areRivals 6 = .ok (.getfield 22, 3) := by decide +kernel
theorem dX4_areRivals_9 : decode cX4_areRivals 9 = .ok (.iload_n 1, 1) := by decide +kernel
theorem dX4_areRivals_10 : decode cX4_areRivals 10 = .ok (.iaload, 1) := by decide +kernel
theorem dX4_areRivals_11 : decode cX4_areRivals 11 = .ok (.aload_n 0, 1) := by decide +kernel
theorem dX4_areRivals_12 : decode cX4_areRivals 12 = .ok (.getfield 22, 3) := by decide +kernel
theorem dX4_areRivals_15 : decode cX4_areRivals 15 = .ok (.iload_n 2, 1) := by decide +kernel
theorem dX4_areRivals_16 : decode cX4_areRivals 16 = .ok (.iaload, 1) := by decide +kernel
theorem dX4_areRivals_17 : decode cX4_areRivals 17 = .ok (.if_icmp .ne 37, 3) := by decide +kernel
theorem dX4_areRivals_20 : decode cX4_areRivals 20 = .ok (.aload_n 0, 1) := by decide +kernel
theorem dX4_areRivals_21 : decode cX4_areRivals 21 = .ok (.getfield 25, 3) := by decide +kernel
theorem dX4_areRivals_24 : decode cX4_areRivals 24 = .ok (.iload_n 1, 1) := by decide +kernel
theorem dX4_areRivals_25 : decode cX4_areRivals 25 = .ok (.iaload, 1) := by decide +kernel
theorem dX4_areRivals_26 : decode cX4_areRivals 26 = .ok (.aload_n 0, 1) := by decide +kernel
theorem dX4_areRivals_27 : decode cX4_areRivals 27 = .ok (.getfield 25, 3) := by decide +kernel
theorem dX4_areRivals_30 : decode cX4_areRivals 30 = .ok (.iload_n 2, 1) := by decide +kernel
theorem dX4_areRivals_31 : decode cX4_areRivals 31 = .ok (.iaload, 1) := by decide +kernel
theorem dX4_areRivals_32 : decode cX4_areRivals 32 = .ok (.if_icmp .ne 22, 3) := by decide +kernel
theorem dX4_areRivals_35 : decode cX4_areRivals 35 = .ok (.aload_n 0, 1) := by decide +kernel
theorem dX4_areRivals_36 : decode cX4_areRivals 36 = .ok (.getfield 28, 3) := by decide +kernel
theorem dX4_areRivals_39 : decode cX4_areRivals 39 = .ok (.iload_n 1, 1) := by decide +kernel
theorem dX4_areRivals_40 : decode cX4_areRivals 40 = .ok (.iaload, 1) := by decide +kernel
theorem dX4_areRivals_41 : decode cX4_areRivals 41 = .ok (.aload_n 0, 1) := by decide +kernel
theorem dX4_areRivals_42 : decode cX4_areRivals 42 = .ok (.getfield 28, 3) := by decide +kernel
theorem dX4_areRivals_45 : decode cX4_areRivals 45 = .ok (.iload_n 2, 1) := by decide +kernel
theorem dX4_areRivals_46 : decode cX4_areRivals 46 = .ok (.iaload, 1) := by decide +kernel
theorem dX4_areRivals_47 : decode cX4_areRivals 47 = .ok (.if_icmp .ne 7, 3) := by decide +kernel
theorem dX4_areRivals_50 : decode cX4_areRivals 50 = .ok (.iconst 1, 1) := by decide +kernel
theorem dX4_areRivals_51 : decode cX4_areRivals 51 = .ok (.goto 4, 3) := by decide +kernel
theorem dX4_areRivals_54 : decode cX4_areRivals 54 = .ok (.iconst 0, 1) := by decide +kernel
theorem dX4_areRivals_55 : decode cX4_areRivals 55 = .ok (.ireturn, 1) := by decide +kernel
theorem dX4_comes_0 : decode cX4_comes 0 = .ok (.aload_n 0, 1) := by decide +kernel
theorem dX4_comes_1 : decode cX4_comes 1 = .ok (.getfield 50, 3) := by decide +kernel
theorem dX4_comes_4 : decode cX4_comes 4 = .ok (.iload_n 1, 1) := by decide +kernel
theorem dX4_comes_5 : decode cX4_comes 5 = .ok (.baload, 1) := by decide +kernel
theorem dX4_comes_6 : decode cX4_comes 6 = .ok (.ifCond .eq 16, 3) := by decide +kernel
theorem dX4_comes_9 : decode cX4_comes 9 = .ok (.aload_n 0, 1) := by decide +kernel
theorem dX4_comes_10 : decode cX4_comes 10 = .ok (.getfield 44, 3) := by decide +kernel
theorem dX4_comes_13 : decode cX4_comes 13 = .ok (.bipush 120, 2) := by decide +kernel
theorem dX4_comes_15 : decode cX4_comes 15 = .ok (.iload_n 1, 1) := by decide +kernel
theorem dX4_comes_16 : decode cX4_comes 16 = .ok (.imul, 1) := by decide +kernel
theorem dX4_comes_17 : decode cX4_comes 17 = .ok (.iload_n 2, 1) := by decide +kernel
theorem dX4_comes_18 : decode cX4_comes 18 = .ok (.iadd, 1) := by decide +kernel
theorem dX4_comes_19 : decode cX4_comes 19 = .ok (.iconst (-1), 1) := by decide +kernel
theorem dX4_comes_20 : decode cX4_comes 20 = .ok (.iastore, 1) := by decide +kernel
theorem dX4_comes_21 : decode cX4_comes 21 = .ok (.return_, 1) := by decide +kernel
theorem dX4_comes_22 : decode cX4_comes 22 = .ok (.aload_n 0, 1) := by decide +kernel
theorem dX4_comes_23 : decode cX4_comes 23 = .ok (.getfield 47, 3) := by decide +kernel
theorem dX4_comes_26 : decode cX4_comes 26 = .ok (.iload_n 1, 1) := by decide +kernel
theorem dX4_comes_27 : decode cX4_comes 27 = .ok (.dup2, 1) := by decide +kernel
theorem dX4_comes_28 : decode cX4_comes 28 = .ok (.iaload, 1) := by decide +kernel
theorem dX4_comes_29 : decode cX4_comes 29 = .ok (.iconst 1, 1) := by decide +kernel
theorem dX4_comes_30 : decode cX4_comes 30 = .ok (.iadd, 1) := by decide +kernel
theorem dX4_comes_31 : decode cX4_comes 31 = .ok (.iastore, 1) := by decide +kernel
theorem dX4_comes_32 : decode cX4_comes 32 = .ok (.aload_n 0, 1) := by decide +kernel
theorem dX4_comes_33 : decode cX4_comes 33 = .ok (.getfield 44, 3) := by decide +kernel
theorem dX4_comes_36 : decode cX4_comes 36 = .ok (.bipush 120, 2) := by decide +kernel
theorem dX4_comes_38 : decode cX4_comes 38 = .ok (.iload_n 1, 1) := by decide +kernel
theorem dX4_comes_39 : decode cX4_comes 39 = .ok (.imul, 1) := by decide +kernel
theorem dX4_comes_40 : decode cX4_comes 40 = .ok (.iload_n 2, 1) := by decide +kernel
theorem dX4_comes_41 : decode cX4_comes 41 = .ok (.iadd, 1) := by decide +kernel
theorem dX4_comes_42 : decode cX4_comes 42 = .ok (.aload_n 0, 1) := by decide +kernel
theorem dX4_comes_43 : decode cX4_comes 43 = .ok (.getfield 47, 3) := by decide +kernel
theorem dX4_comes_46 : decode cX4_comes 46 = .ok (.iload_n 1, 1) := by decide +kernel
theorem dX4_comes_47 : decode cX4_comes 47 = .ok (.iaload, 1) := by decide +kernel
theorem dX4_comes_48 : decode cX4_comes 48 = .ok (.iastore, 1) := by decide +kernel
theorem dX4_comes_49 : decode cX4_comes 49 = .ok (.return_, 1) := by decide +kernel
theorem dX4_restart_0 : decode cX4_restart 0 = .ok (.iload_n 1, 1) := by decide +kernel
theorem dX4_restart_1 : decode cX4_restart 1 = .ok (.invokestatic 61, 3) := by decide +kernel
theorem dX4_restart_4 : decode cX4_restart 4 = .ok (.ifCond .ne 7, 3) := by decide +kernel
theorem dX4_restart_7 : decode cX4_restart 7 = .ok (.iconst 1, 1) := by decide +kernel
theorem dX4_restart_8 : decode cX4_restart 8 = .ok (.goto 4, 3) := by decide +kernel
theorem dX4_restart_11 : decode cX4_restart 11 = .ok (.iconst 0, 1) := by decide +kernel
theorem dX4_restart_12 : decode cX4_restart 12 = .ok (.istore_n 2, 1) := by decide +kernel
theorem dX4_restart_13 : decode cX4_restart 13 = .ok (.aload_n 0, 1) := by decide +kernel
theorem dX4_restart_14 : decode cX4_restart 14 = .ok (.iload_n 2, 1) := by decide +kernel
theorem dX4_restart_15 : decode cX4_restart 15 = .ok (.iload_n 2, 1) := by decide +kernel
theorem dX4_restart_16 : decode cX4_restart 16 = .ok (.ifCond .ne 25, 3) := by decide +kernel
theorem dX4_restart_19 : decode cX4_restart 19 = .ok (.aload_n 0, 1) := by decide +kernel
theorem dX4_restart_20 : decode cX4_restart 20 = .ok (.getfield 7, 3) := by decide +kernel
theorem dX4_restart_23 : decode cX4_restart 23 = .ok (.iload_n 2, 1) := by decide +kernel
theorem dX4_restart_24 : decode cX4_restart 24 = .ok (.ifCond .eq 7, 3) := by decide +kernel
theorem dX4_restart_27 : decode cX4_restart 27 = .ok (.iconst 0, 1) := by decide +kernel
theorem dX4_restart_28 : decode cX4_restart 28 = .ok (.goto 4, 3) := by decide +kernel
theorem dX4_restart_31 : decode cX4_restart 31 = .ok (.iload_n 1, 1) := by decide +kernel
theorem dX4_restart_32 : decode cX4_restart 32 = .ok (.iaload, 1) := by decide +kernel
theorem dX4_restart_33 : decode cX4_restart 33 = .ok (.iconst 3, 1) := by decide +kernel
theorem dX4_restart_34 : decode cX4_restart 34 = .ok (.if_icmp .ne 7, 3) := by decide +kernel
theorem dX4_restart_37 : decode cX4_restart 37 = .ok (.iconst 1, 1) := by decide +kernel
theorem dX4_restart_38 : decode cX4_restart 38 = .ok (.goto 4, 3) := by decide +kernel
theorem dX4_restart_41 : decode cX4_restart 41 = .ok (.iconst 0, 1) := by decide +kernel
theorem dX4_restart_42 : decode cX4_restart 42 = .ok (.iconst 0, 1) := by decide +kernel
theorem dX4_restart_43 : decode cX4_restart 43 = .ok (.iconst 0, 1) := by decide +kernel
theorem dX4_restart_44 : decode cX4_restart 44 = .ok (.invokevirtual 66, 3) := by decide +kernel
theorem dX4_restart_47 : decode cX4_restart 47 = .ok (.ifCond .eq 5, 3) := by decide +kernel
theorem dX4_restart_50 : decode cX4_restart 50 = .ok (.iconst 0, 1) := by decide +kernel
theorem dX4_restart_51 : decode cX4_restart 51 = .ok (.ireturn, 1) := by decide +kernel
theorem dX4_restart_52 : decode cX4_restart 52 = .ok (.aload_n 0, 1) := by decide +kernel
theorem dX4_restart_53 : decode cX4_restart 53 = .ok (.getfield 7, 3) := by decide +kernel
theorem dX4_restart_56 : decode cX4_restart 56 = .ok (.iload_n 1, 1) := by decide +kernel
theorem dX4_restart_57 : decode cX4_restart 57 = .ok (.dup2, 1) := by decide +kernel
theorem dX4_restart_58 : decode cX4_restart 58 = .ok (.iaload, 1) := by decide +kernel
theorem dX4_restart_59 : decode cX4_restart 59 = .ok (.iconst 1, 1) := by decide +kernel
theorem dX4_restart_60 : decode cX4_restart 60 = .ok (.iadd, 1) := by decide +kernel
theorem dX4_restart_61 : decode cX4_restart 61 = .ok (.iastore, 1) := by decide +kernel
theorem dX4_restart_62 : decode cX4_restart 62 = .ok (.aload_n 0, 1) := by decide +kernel
theorem dX4_restart_63 : decode cX4_restart 63 = .ok (.getfield 7, 3) := by decide +kernel
theorem dX4_restart_66 : decode cX4_restart 66 = .ok (.iload_n 1, 1) := by decide +kernel
theorem dX4_restart_67 : decode cX4_restart 67 = .ok (.iaload, 1) := by decide +kernel
theorem dX4_restart_68 : decode cX4_restart 68 = .ok (.ireturn, 1) := by decide +kernel
theorem dX4_join_0 : decode cX4_join 0 = .ok (.aload_n 0, 1) := by decide +kernel
theorem dX4_join_1 : decode cX4_join 1 = .ok (.iload_n 1, 1) := by decide +kernel
theorem dX4_join_2 : decode cX4_join 2 = .ok (.invokestatic 77, 3) := by decide +kernel
theorem dX4_join_5 : decode cX4_join 5 = .ok (.ifCond .eq 15, 3) := by decide +kernel
theorem dX4_join_8 : decode cX4_join 8 = .ok (.iload_n 2, 1) := by decide +kernel
theorem dX4_join_9 : decode cX4_join 9 = .ok (.invokestatic 77, 3) := by decide +kernel
theorem dX4_join_12 : decode cX4_join 12 = .ok (.ifCond .eq 8, 3) := by decide +kernel
theorem dX4_join_15 : decode cX4_join 15 = .ok (.iload_n 1, 1) := by decide +kernel
theorem dX4_join_16 : decode cX4_join 16 = .ok (.iload_n 2, 1) := by decide +kernel
theorem dX4_join_17 : decode cX4_join 17 = .ok (.if_icmp .ne 7, 3) := by decide +kernel
theorem dX4_join_20 : decode cX4_join 20 = .ok (.iconst 1, 1) := by decide +kernel
theorem dX4_join_21 : decode cX4_join 21 = .ok (.goto 4, 3) := by decide +kernel
theorem dX4_join_24 : decode cX4_join 24 = .ok (.iconst 0, 1) := by decide +kernel
theorem dX4_join_25 : decode cX4_join 25 = .ok (.iconst 0, 1) := by decide +kernel
theorem dX4_join_26 : decode cX4_join 26 = .ok (.iconst 0, 1) := by decide +kernel
theorem dX4_join_27 : decode cX4_join 27 = .ok (.iconst 0, 1) := by decide +kernel
theorem dX4_join_28 : decode cX4_join 28 = .ok (.invokevirtual 66, 3) := by decide +kernel
theorem dX4_join_31 : decode cX4_join 31 = .ok (.ifCond .eq 5, 3) := by decide +kernel
theorem dX4_join_34 : decode cX4_join 34 = .ok (.iconst 0, 1) := by decide +kernel
theorem dX4_join_35 : decode cX4_join 35 = .ok (.ireturn, 1) := by decide +kernel
theorem dX4_join_36 : decode cX4_join 36 = .ok (.iconst 0, 1) := by decide +kernel
theorem dX4_join_37 : decode cX4_join 37 = .ok (.istore_n 3, 1) := by decide +kernel
theorem dX4_join_38 : decode cX4_join 38 = .ok (.iconst 0, 1) := by decide +kernel
theorem dX4_join_39 : decode cX4_join 39 = .ok (.istore 4, 2) := by decide +kernel
theorem dX4_join_41 : decode cX4_join 41 = .ok (.iload 4, 2) := by decide +kernel
theorem dX4_join_43 : decode cX4_join 43 = .ok (.aload_n 0, 1) := by decide +kernel
theorem dX4_join_44 : decode cX4_join 44 = .ok (.getfield 74, 3) := by decide +kernel
theorem dX4_join_47 : decode cX4_join 47 = .ok (.if_icmp .ge 44, 3) := by decide +kernel
theorem dX4_join_50 : decode cX4_join 50 = .ok (.aload_n 0, 1) := by decide +kernel
theorem dX4_join_51 : decode cX4_join 51 = .ok (.getfield 44, 3) := by decide +kernel
theorem dX4_join_54 : decode cX4_join 54 = .ok (.bipush 120, 2) := by decide +kernel
theorem dX4_join_56 : decode cX4_join 56 = .ok (.iload_n 2, 1) := by decide +kernel
theorem dX4_join_57 : decode cX4_join 57 = .ok (.imul, 1) := by decide +kernel
theorem dX4_join_58 : decode cX4_join 58 = .ok (.iload 4, 2) := by decide +kernel
theorem dX4_join_60 : decode cX4_join 60 = .ok (.iadd, 1) := by decide +kernel
theorem dX4_join_61 : decode cX4_join 61 = .ok (.iaload, 1) := by decide +kernel
theorem dX4_join_62 : decode cX4_join 62 = .ok (.ifCond .le 23, 3) := by decide +kernel
theorem dX4_join_65 : decode cX4_join 65 = .ok (.aload_n 0, 1) := by decide +kernel
theorem dX4_join_66 : decode cX4_join 66 = .ok (.iload_n 1, 1) := by decide +kernel
theorem dX4_join_67 : decode cX4_join 67 = .ok (.iload 4, 2) := by decide +kernel
theorem dX4_join_69 : decode cX4_join 69 = .ok (.invokevirtual 90, 3) := by decide +kernel
theorem dX4_join_72 : decode cX4_join 72 = .ok (.ifCond .ne 13, 3) := by decide +kernel
theorem dX4_join_75 : decode cX4_join 75 = .ok (.aload_n 0, 1) := by decide +kernel
theorem dX4_join_76 : decode cX4_join 76 = .ok (.iload_n 1, 1) := by decide +kernel
theorem dX4_join_77 : decode cX4_join 77 = .ok (.iload 4, 2) := by decide +kernel
theorem dX4_join_79 : decode cX4_join 79 = .ok (.invokevirtual 97, 3) := by decide +kernel
theorem dX4_join_82 : decode cX4_join 82 = .ok (.iinc 3 1, 3) := by decide +kernel
theorem dX4_join_85 : decode cX4_join 85 = .ok (.iinc 4 1, 3) := by decide +kernel
theorem dX4_join_88 : decode cX4_join 88 = .ok (.goto (-47), 3) := by decide +kernel
theorem dX4_join_91 : decode cX4_join 91 = .ok (.iload_n 3, 1) := by decide +kernel
theorem dX4_join_92 : decode cX4_join 92 = .ok (.ireturn, 1) := by decide +kernel
theorem dX4_batch_0 : decode cX4_batch 0 = .ok (.iload_n 1, 1) := by decide +kernel
theorem dX4_batch_1 : decode cX4_batch 1 = .ok (.invokestatic 77, 3) := by decide +kernel
theorem dX4_batch_4 : decode cX4_batch 4 = .ok (.ifCond .ne 7, 3) := by decide +kernel
theorem dX4_batch_7 : decode cX4_batch 7 = .ok (.iconst 1, 1) := by decide +kernel
theorem dX4_batch_8 : decode cX4_batch 8 = .ok (.goto 4, 3) := by decide +kernel
theorem dX4_batch_11 : decode cX4_batch 11 = .ok (.iconst 0, 1) := by decide +kernel
theorem dX4_batch_12 : decode cX4_batch 12 = .ok (.istore_n 3, 1) := by decide +kernel
theorem dX4_batch_13 : decode cX4_batch 13 = .ok (.aload_n 0, 1) := by decide +kernel
theorem dX4_batch_14 : decode cX4_batch 14 = .ok (.iload_n 3, 1) := by decide +kernel
theorem dX4_batch_15 : decode cX4_batch 15 = .ok (.iload_n 3, 1) := by decide +kernel
theorem dX4_batch_16 : decode cX4_batch 16 = .ok (.ifCond .ne 25, 3) := by decide +kernel
theorem dX4_batch_19 : decode cX4_batch 19 = .ok (.aload_n 0, 1) := by decide +kernel
theorem dX4_batch_20 : decode cX4_batch 20 = .ok (.getfield 50, 3) := by decide +kernel
theorem dX4_batch_23 : decode cX4_batch 23 = .ok (.iload_n 3, 1) := by decide +kernel
theorem dX4_batch_24 : decode cX4_batch 24 = .ok (.ifCond .eq 7, 3) := by decide +kernel
theorem dX4_batch_27 : decode cX4_batch 27 = .ok (.iconst 0, 1) := by decide +kernel
theorem dX4_batch_28 : decode cX4_batch 28 = .ok (.goto 4, 3) := by decide +kernel
theorem dX4_batch_31 : decode cX4_batch 31 = .ok (.iload_n 1, 1) := by decide +kernel
theorem dX4_batch_32 : decode cX4_batch 32 = .ok (.baload, 1) := by decide +kernel
theorem dX4_batch_33 : decode cX4_batch 33 = .ok (.iload_n 2, 1) := by decide +kernel
theorem dX4_batch_34 : decode cX4_batch 34 = .ok (.if_icmp .ne 7, 3) := by decide +kernel
theorem dX4_batch_37 : decode cX4_batch 37 = .ok (.iconst 1, 1) := by decide +kernel
theorem dX4_batch_38 : decode cX4_batch 38 = .ok (.goto 4, 3) := by decide +kernel
theorem dX4_batch_41 : decode cX4_batch 41 = .ok (.iconst 0, 1) := by decide +kernel
theorem dX4_batch_42 : decode cX4_batch 42 = .ok (.iconst 0, 1) := by decide +kernel
theorem dX4_batch_43 : decode cX4_batch 43 = .ok (.iconst 0, 1) := by decide +kernel
theorem dX4_batch_44 : decode cX4_batch 44 = .ok (.invokevirtual 66, 3) := by decide +kernel
theorem dX4_batch_47 : decode cX4_batch 47 = .ok (.ifCond .eq 5, 3) := by decide +kernel
theorem dX4_batch_50 : decode cX4_batch 50 = .ok (.iconst 0, 1) := by decide +kernel
theorem dX4_batch_51 : decode cX4_batch 51 = .ok (.ireturn, 1) := by decide +kernel
theorem dX4_batch_52 : decode cX4_batch 52 = .ok (.aload_n 0, 1) := by decide +kernel
theorem dX4_batch_53 : decode cX4_batch 53 = .ok (.getfield 50, 3) := by decide +kernel
theorem dX4_batch_56 : decode cX4_batch 56 = .ok (.iload_n 1, 1) := by decide +kernel
theorem dX4_batch_57 : decode cX4_batch 57 = .ok (.iload_n 2, 1) := by decide +kernel
theorem dX4_batch_58 : decode cX4_batch 58 = .ok (.bastore, 1) := by decide +kernel
theorem dX4_batch_59 : decode cX4_batch 59 = .ok (.iconst 0, 1) := by decide +kernel
theorem dX4_batch_60 : decode cX4_batch 60 = .ok (.istore 4, 2) := by decide +kernel
theorem dX4_batch_62 : decode cX4_batch 62 = .ok (.iconst 0, 1) := by decide +kernel
theorem dX4_batch_63 : decode cX4_batch 63 = .ok (.istore 5, 2) := by decide +kernel
theorem dX4_batch_65 : decode cX4_batch 65 = .ok (.iload 5, 2) := by decide +kernel
theorem dX4_batch_67 : decode cX4_batch 67 = .ok (.aload_n 0, 1) := by decide +kernel
theorem dX4_batch_68 : decode cX4_batch 68 = .ok (.getfield 74, 3) := by decide +kernel
theorem dX4_batch_71 : decode cX4_batch 71 = .ok (.if_icmp .ge 34, 3) := by decide +kernel
theorem dX4_batch_74 : decode cX4_batch 74 = .ok (.iload 4, 2) := by decide +kernel
theorem dX4_batch_76 : decode cX4_batch 76 = .ok (.aload_n 0, 1) := by decide +kernel
theorem dX4_batch_77 : decode cX4_batch 77 = .ok (.getfield 44, 3) := by decide +kernel
theorem dX4_batch_80 : decode cX4_batch 80 = .ok (.bipush 120, 2) := by decide +kernel
theorem dX4_batch_82 : decode cX4_batch 82 = .ok (.iload_n 1, 1) := by decide +kernel
theorem dX4_batch_83 : decode cX4_batch 83 = .ok (.imul, 1) := by decide +kernel
theorem dX4_batch_84 : decode cX4_batch 84 = .ok (.iload 5, 2) := by decide +kernel
theorem dX4_batch_86 : decode cX4_batch 86 = .ok (.iadd, 1) := by decide +kernel
theorem dX4_batch_87 : decode cX4_batch 87 = .ok (.iaload, 1) := by decide +kernel
theorem dX4_batch_88 : decode cX4_batch 88 = .ok (.ifCond .ge 7, 3) := by decide +kernel
theorem dX4_batch_91 : decode cX4_batch 91 = .ok (.iconst 1, 1) := by decide +kernel
theorem dX4_batch_92 : decode cX4_batch 92 = .ok (.goto 4, 3) := by decide +kernel
theorem dX4_batch_95 : decode cX4_batch 95 = .ok (.iconst 0, 1) := by decide +kernel
theorem dX4_batch_96 : decode cX4_batch 96 = .ok (.iadd, 1) := by decide +kernel
theorem dX4_batch_97 : decode cX4_batch 97 = .ok (.istore 4, 2) := by decide +kernel
theorem dX4_batch_99 : decode cX4_batch 99 = .ok (.iinc 5 1, 3) := by decide +kernel
theorem dX4_batch_102 : decode cX4_batch 102 = .ok (.goto (-37), 3) := by decide +kernel
theorem dX4_batch_105 : decode cX4_batch 105 = .ok (.iload 4, 2) := by decide +kernel
theorem dX4_batch_107 : decode cX4_batch 107 = .ok (.ifCond .le 13, 3) := by decide +kernel
theorem dX4_batch_110 : decode cX4_batch 110 = .ok (.aload_n 0, 1) := by decide +kernel
theorem dX4_batch_111 : decode cX4_batch 111 = .ok (.getfield 47, 3) := by decide +kernel
theorem dX4_batch_114 : decode cX4_batch 114 = .ok (.iload_n 1, 1) := by decide +kernel
theorem dX4_batch_115 : decode cX4_batch 115 = .ok (.dup2, 1) := by decide +kernel
theorem dX4_batch_116 : decode cX4_batch 116 = .ok (.iaload, 1) := by decide +kernel
theorem dX4_batch_117 : decode cX4_batch 117 = .ok (.iconst 1, 1) := by decide +kernel
theorem dX4_batch_118 : decode cX4_batch 118 = .ok (.iadd, 1) := by decide +kernel
theorem dX4_batch_119 : decode cX4_batch 119 = .ok (.iastore, 1) := by decide +kernel
theorem dX4_batch_120 : decode cX4_batch 120 = .ok (.iconst 0, 1) := by decide +kernel
theorem dX4_batch_121 : decode cX4_batch 121 = .ok (.istore 5, 2) := by decide +kernel
theorem dX4_batch_123 : decode cX4_batch 123 = .ok (.iload 5, 2) := by decide +kernel
theorem dX4_batch_125 : decode cX4_batch 125 = .ok (.aload_n 0, 1) := by decide +kernel
theorem dX4_batch_126 : decode cX4_batch 126 = .ok (.getfield 74, 3) := by decide +kernel
theorem dX4_batch_129 : decode cX4_batch 129 = .ok (.if_icmp .ge 42, 3) := by decide +kernel
theorem dX4_batch_132 : decode cX4_batch 132 = .ok (.aload_n 0, 1) := by decide +kernel
theorem dX4_batch_133 : decode cX4_batch 133 = .ok (.getfield 44, 3) := by decide +kernel
theorem dX4_batch_136 : decode cX4_batch 136 = .ok (.bipush 120, 2) := by decide +kernel
theorem dX4_batch_138 : decode cX4_batch 138 = .ok (.iload_n 1, 1) := by decide +kernel
theorem dX4_batch_139 : decode cX4_batch 139 = .ok (.imul, 1) := by decide +kernel
theorem dX4_batch_140 : decode cX4_batch 140 = .ok (.iload 5, 2) := by decide +kernel
theorem dX4_batch_142 : decode cX4_batch 142 = .ok (.iadd, 1) := by decide +kernel
theorem dX4_batch_143 : decode cX4_batch 143 = .ok (.iaload, 1) := by decide +kernel
theorem dX4_batch_144 : decode cX4_batch 144 = .ok (.ifCond .ge 21, 3) := by decide +kernel
theorem dX4_batch_147 : decode cX4_batch 147 = .ok (.aload_n 0, 1) := by decide +kernel
theorem dX4_batch_148 : decode cX4_batch 148 = .ok (.getfield 44, 3) := by decide +kernel
theorem dX4_batch_151 : decode cX4_batch 151 = .ok (.bipush 120, 2) := by decide +kernel
theorem dX4_batch_153 : decode cX4_batch 153 = .ok (.iload_n 1, 1) := by decide +kernel
theorem dX4_batch_154 : decode cX4_batch 154 = .ok (.imul, 1) := by decide +kernel
theorem dX4_batch_155 : decode cX4_batch 155 = .ok (.iload 5, 2) := by decide +kernel
theorem dX4_batch_157 : decode cX4_batch 157 = .ok (.iadd, 1) := by decide +kernel
theorem dX4_batch_158 : decode cX4_batch 158 = .ok (.aload_n 0, 1) := by decide +kernel
theorem dX4_batch_159 : decode cX4_batch 159 = .ok (.getfield 47, 3) := by decide +kernel
theorem dX4_batch_162 : decode cX4_batch 162 = .ok (.iload_n 1, 1) := by decide +kernel
theorem dX4_batch_163 : decode cX4_batch 163 = .ok (.iaload, 1) := by decide +kernel
theorem dX4_batch_164 : decode cX4_batch 164 = .ok (.iastore, 1) := by decide +kernel
theorem dX4_batch_165 : decode cX4_batch 165 = .ok (.iinc 5 1, 3) := by decide +kernel
theorem dX4_batch_168 : decode cX4_batch 168 = .ok (.goto (-45), 3) := by decide +kernel
theorem dX4_batch_171 : decode cX4_batch 171 = .ok (.aload_n 0, 1) := by decide +kernel
theorem dX4_batch_172 : decode cX4_batch 172 = .ok (.getfield 47, 3) := by decide +kernel
theorem dX4_batch_175 : decode cX4_batch 175 = .ok (.iload_n 1, 1) := by decide +kernel
theorem dX4_batch_176 : decode cX4_batch 176 = .ok (.iaload, 1) := by decide +kernel
theorem dX4_batch_177 : decode cX4_batch 177 = .ok (.ireturn, 1) := by decide +kernel
theorem dX4_same_0 : decode cX4_same 0 = .ok (.aload_n 0, 1) := by decide +kernel
theorem dX4_same_1 : decode cX4_same 1 = .ok (.iload_n 1, 1) := by decide +kernel
theorem dX4_same_2 : decode cX4_same 2 = .ok (.invokestatic 77, 3) := by decide +kernel
theorem dX4_same_5 : decode cX4_same 5 = .ok (.ifCond .eq 10, 3) := by decide +kernel
theorem dX4_same_8 : decode cX4_same 8 = .ok (.iload_n 2, 1) := by decide +kernel
theorem dX4_same_9 : decode cX4_same 9 = .ok (.invokestatic 77, 3) := by decide +kernel
theorem dX4_same_12 : decode cX4_same 12 = .ok (.ifCond .ne 7, 3) := by decide +kernel
theorem dX4_same_15 : decode cX4_same 15 = .ok (.iconst 1, 1) := by decide +kernel
theorem dX4_same_16 : decode cX4_same 16 = .ok (.goto 4, 3) := by decide +kernel
theorem dX4_same_19 : decode cX4_same 19 = .ok (.iconst 0, 1) := by decide +kernel
theorem dX4_same_20 : decode cX4_same 20 = .ok (.iconst 0, 1) := by decide +kernel
theorem dX4_same_21 : decode cX4_same 21 = .ok (.iconst 0, 1) := by decide +kernel
theorem dX4_same_22 : decode cX4_same 22 = .ok (.iconst 0, 1) := by decide +kernel
theorem dX4_same_23 : decode cX4_same 23 = .ok (.invokevirtual 66, 3) := by decide +kernel
theorem dX4_same_26 : decode cX4_same 26 = .ok (.ifCond .eq 5, 3) := by decide +kernel
theorem dX4_same_29 : decode cX4_same 29 = .ok (.iconst 0, 1) := by decide +kernel
theorem dX4_same_30 : decode cX4_same 30 = .ok (.ireturn, 1) := by decide +kernel
theorem dX4_same_31 : decode cX4_same 31 = .ok (.iconst 1, 1) := by decide +kernel
theorem dX4_same_32 : decode cX4_same 32 = .ok (.istore_n 3, 1) := by decide +kernel
theorem dX4_same_33 : decode cX4_same 33 = .ok (.iconst 0, 1) := by decide +kernel
theorem dX4_same_34 : decode cX4_same 34 = .ok (.istore 4, 2) := by decide +kernel
theorem dX4_same_36 : decode cX4_same 36 = .ok (.iload 4, 2) := by decide +kernel
theorem dX4_same_38 : decode cX4_same 38 = .ok (.aload_n 0, 1) := by decide +kernel
theorem dX4_same_39 : decode cX4_same 39 = .ok (.getfield 74, 3) := by decide +kernel
theorem dX4_same_42 : decode cX4_same 42 = .ok (.if_icmp .ge 48, 3) := by decide +kernel
theorem dX4_same_45 : decode cX4_same 45 = .ok (.iload_n 3, 1) := by decide +kernel
theorem dX4_same_46 : decode cX4_same 46 = .ok (.ifCond .eq 36, 3) := by decide +kernel
theorem dX4_same_49 : decode cX4_same 49 = .ok (.aload_n 0, 1) := by decide +kernel
theorem dX4_same_50 : decode cX4_same 50 = .ok (.iload_n 1, 1) := by decide +kernel
theorem dX4_same_51 : decode cX4_same 51 = .ok (.iload 4, 2) := by decide +kernel
theorem dX4_same_53 : decode cX4_same 53 = .ok (.aload_n 0, 1) := by decide +kernel
theorem dX4_same_54 : decode cX4_same 54 = .ok (.getfield 47, 3) := by decide +kernel
theorem dX4_same_57 : decode cX4_same 57 = .ok (.iload_n 1, 1) := by decide +kernel
theorem dX4_same_58 : decode cX4_same 58 = .ok (.iaload, 1) := by decide +kernel
theorem dX4_same_59 : decode cX4_same 59 = .ok (.invokevirtual 101, 3) := by decide +kernel
theorem dX4_same_62 : decode cX4_same 62 = .ok (.aload_n 0, 1) := by decide +kernel
theorem dX4_same_63 : decode cX4_same 63 = .ok (.iload_n 2, 1) := by decide +kernel
theorem dX4_same_64 : decode cX4_same 64 = .ok (.iload 4, 2) := by decide +kernel
theorem dX4_same_66 : decode cX4_same 66 = .ok (.aload_n 0, 1) := by decide +kernel
theorem dX4_same_67 : decode cX4_same 67 = .ok (.getfield 47, 3) := by decide +kernel
theorem dX4_same_70 : decode cX4_same 70 = .ok (.iload_n 2, 1) := by decide +kernel
theorem dX4_same_71 : decode cX4_same 71 = .ok (.iaload, 1) := by decide +kernel
theorem dX4_same_72 : decode cX4_same 72 = .ok (.invokevirtual 101, 3) := by decide +kernel
theorem dX4_same_75 : decode cX4_same 75 = .ok (.if_icmp .ne 7, 3) := by decide +kernel
theorem dX4_same_78 : decode cX4_same 78 = .ok (.iconst 1, 1) := by decide +kernel
theorem dX4_same_79 : decode cX4_same 79 = .ok (.goto 4, 3) := by decide +kernel
theorem dX4_same_82 : decode cX4_same 82 = .ok (.iconst 0, 1) := by decide +kernel
theorem dX4_same_83 : decode cX4_same 83 = .ok (.istore_n 3, 1) := by decide +kernel
theorem dX4_same_84 : decode cX4_same 84 = .ok (.iinc 4 1, 3) := by decide +kernel
theorem dX4_same_87 : decode cX4_same 87 = .ok (.goto (-51), 3) := by decide +kernel
theorem dX4_same_90 : decode cX4_same 90 = .ok (.iload_n 3, 1) := by decide +kernel
theorem dX4_same_91 : decode cX4_same 91 = .ok (.ireturn, 1) := by decide +kernel
theorem dX4_sees_0 : decode cX4_sees 0 = .ok (.aload_n 0, 1) := by decide +kernel
theorem dX4_sees_1 : decode cX4_sees 1 = .ok (.getfield 44, 3) := by decide +kernel
theorem dX4_sees_4 : decode cX4_sees 4 = .ok (.bipush 120, 2) := by decide +kernel
theorem dX4_sees_6 : decode cX4_sees 6 = .ok (.iload_n 1, 1) := by decide +kernel
theorem dX4_sees_7 : decode cX4_sees 7 = .ok (.imul, 1) := by decide +kernel
theorem dX4_sees_8 : decode cX4_sees 8 = .ok (.iload_n 2, 1) := by decide +kernel
theorem dX4_sees_9 : decode cX4_sees 9 = .ok (.iadd, 1) := by decide +kernel
theorem dX4_sees_10 : decode cX4_sees 10 = .ok (.iaload, 1) := by decide +kernel
theorem dX4_sees_11 : decode cX4_sees 11 = .ok (.i2l, 1) := by decide +kernel
theorem dX4_sees_12 : decode cX4_sees 12 = .ok (.iconst 1, 1) := by decide +kernel
theorem dX4_sees_13 : decode cX4_sees 13 = .ok (.iload_n 3, 1) := by decide +kernel
theorem dX4_sees_14 : decode cX4_sees 14 = .ok (.invokestatic 57, 3) := by decide +kernel
theorem dX4_sees_17 : decode cX4_sees 17 = .ok (.ireturn, 1) := by decide +kernel
theorem dX4_conflicts_0 : decode cX4_conflicts 0 = .ok (.aload_n 0, 1) := by decide +kernel
theorem dX4_conflicts_1 : decode cX4_conflicts 1 = .ok (.iload_n 1, 1) := by decide +kernel
theorem dX4_conflicts_2 : decode cX4_conflicts 2 = .ok (.invokestatic 77, 3) := by decide +kernel
theorem dX4_conflicts_5 : decode cX4_conflicts 5 = .ok (.ifCond .ne 7, 3) := by decide +kernel
theorem dX4_conflicts_8 : decode cX4_conflicts 8 = .ok (.iconst 1, 1) := by decide +kernel
theorem dX4_conflicts_9 : decode cX4_conflicts 9 = .ok (.goto 4, 3) := by decide +kernel
theorem dX4_conflicts_12 : decode cX4_conflicts 12 = .ok (.iconst 0, 1) := by decide +kernel
theorem dX4_conflicts_13 : decode cX4_conflicts 13 = .ok (.iconst 0, 1) := by decide +kernel
theorem dX4_conflicts_14 : decode cX4_conflicts 14 = .ok (.iconst 0, 1) := by decide +kernel
theorem dX4_conflicts_15 : decode cX4_conflicts 15 = .ok (.iconst 0, 1) := by decide +kernel
theorem dX4_conflicts_16 : decode cX4_conflicts 16 = .ok (.invokevirtual 66, 3) := by decide +kernel
theorem dX4_conflicts_19 : decode cX4_conflicts 19 = .ok (.ifCond .eq 5, 3) := by decide +kernel
theorem dX4_conflicts_22 : decode cX4_conflicts 22 = .ok (.iconst 0, 1) := by decide +kernel
theorem dX4_conflicts_23 : decode cX4_conflicts 23 = .ok (.ireturn, 1) := by decide +kernel
theorem dX4_conflicts_24 : decode cX4_conflicts 24 = .ok (.iconst 0, 1) := by decide +kernel
theorem dX4_conflicts_25 : decode cX4_conflicts 25 = .ok (.istore_n 2, 1) := by decide +kernel
theorem dX4_conflicts_26 : decode cX4_conflicts 26 = .ok (.iconst 0, 1) := by decide +kernel
theorem dX4_conflicts_27 : decode cX4_conflicts 27 = .ok (.istore_n 3, 1) := by decide +kernel
theorem dX4_conflicts_28 : decode cX4_conflicts 28 = .ok (.iload_n 3, 1) := by decide +kernel
theorem dX4_conflicts_29 : decode cX4_conflicts 29 = .ok (.aload_n 0, 1) := by decide +kernel
theorem dX4_conflicts_30 : decode cX4_conflicts 30 = .ok (.getfield 74, 3) := by decide +kernel
theorem dX4_conflicts_33 : decode cX4_conflicts 33 = .ok (.if_icmp .ge 183, 3) := by decide +kernel
theorem dX4_conflicts_36 : decode cX4_conflicts 36 = .ok (.aload_n 0, 1) := by decide +kernel
theorem dX4_conflicts_37 : decode cX4_conflicts 37 = .ok (.iload_n 1, 1) := by decide +kernel
theorem dX4_conflicts_38 : decode cX4_conflicts 38 = .ok (.iload_n 3, 1) := by decide +kernel
theorem dX4_conflicts_39 : decode cX4_conflicts 39 = .ok (.aload_n 0, 1) := by decide +kernel
theorem dX4_conflicts_40 : decode cX4_conflicts 40 = .ok (.getfield 47, 3) := by decide +kernel
theorem dX4_conflicts_43 : decode cX4_conflicts 43 = .ok (.iload_n 1, 1) := by decide +kernel
theorem dX4_conflicts_44 : decode cX4_conflicts 44 = .ok (.iaload, 1) := by decide +kernel
theorem dX4_conflicts_45 : decode cX4_conflicts 45 = .ok (.invokevirtual 101, 3) := by decide +kernel
theorem dX4_conflicts_48 : decode cX4_conflicts 48 = .ok (.istore 4, 2) := by decide +kernel
theorem dX4_conflicts_50 : decode cX4_conflicts 50 = .ok (.iconst 0, 1) := by decide +kernel
theorem dX4_conflicts_51 : decode cX4_conflicts 51 = .ok (.istore 5, 2) := by decide +kernel
theorem dX4_conflicts_53 : decode cX4_conflicts 53 = .ok (.aload_n 0, 1) := by decide +kernel
theorem dX4_conflicts_54 : decode cX4_conflicts 54 = .ok (.getfield 40, 3) := by decide +kernel
theorem dX4_conflicts_57 : decode cX4_conflicts 57 = .ok (.iload_n 3, 1) := by decide +kernel
theorem dX4_conflicts_58 : decode cX4_conflicts 58 = .ok (.baload, 1) := by decide +kernel
theorem dX4_conflicts_59 : decode cX4_conflicts 59 = .ok (.ifCond .ne 7, 3) := by decide +kernel
theorem dX4_conflicts_62 : decode cX4_conflicts 62 = .ok (.iconst 1, 1) := by decide +kernel
theorem dX4_conflicts_63 : decode cX4_conflicts 63 = .ok (.goto 4, 3) := by decide +kernel
theorem dX4_conflicts_66 : decode cX4_conflicts 66 = .ok (.iconst 0, 1) := by decide +kernel
theorem dX4_conflicts_67 : decode cX4_conflicts 67 = .ok (.istore 6, 2) := by decide +kernel
theorem dX4_conflicts_69 : decode cX4_conflicts 69 = .ok (.iconst 0, 1) := by decide +kernel
theorem dX4_conflicts_70 : decode cX4_conflicts 70 = .ok (.istore 7, 2) := by decide +kernel
theorem dX4_conflicts_72 : decode cX4_conflicts 72 = .ok (.iload 7, 2) := by decide +kernel
theorem dX4_conflicts_74 : decode cX4_conflicts 74 = .ok (.aload_n 0, 1) := by decide +kernel
theorem dX4_conflicts_75 : decode cX4_conflicts 75 = .ok (.getfield 74, 3) := by decide +kernel
theorem dX4_conflicts_78 : decode cX4_conflicts 78 = .ok (.if_icmp .ge 109, 3) := by decide +kernel
theorem dX4_conflicts_81 : decode cX4_conflicts 81 = .ok (.aload_n 0, 1) := by decide +kernel
theorem dX4_conflicts_82 : decode cX4_conflicts 82 = .ok (.iload_n 3, 1) := by decide +kernel
theorem dX4_conflicts_83 : decode cX4_conflicts 83 = .ok (.iload 7, 2) := by decide +kernel
theorem dX4_conflicts_85 : decode cX4_conflicts 85 = .ok (.invokevirtual 94, 3) := by decide +kernel
theorem dX4_conflicts_88 : decode cX4_conflicts 88 = .ok (.ifCond .eq 23, 3) := by decide +kernel
theorem dX4_conflicts_91 : decode cX4_conflicts 91 = .ok (.aload_n 0, 1) := by decide +kernel
theorem dX4_conflicts_92 : decode cX4_conflicts 92 = .ok (.iload_n 1, 1) := by decide +kernel
theorem dX4_conflicts_93 : decode cX4_conflicts 93 = .ok (.iload 7, 2) := by decide +kernel
theorem dX4_conflicts_95 : decode cX4_conflicts 95 = .ok (.aload_n 0, 1) := by decide +kernel
theorem dX4_conflicts_96 : decode cX4_conflicts 96 = .ok (.getfield 47, 3) := by decide +kernel
theorem dX4_conflicts_99 : decode cX4_conflicts 99 = .ok (.iload_n 1, 1) := by decide +kernel
theorem dX4_conflicts_100 : decode cX4_conflicts 100 = .ok (.iaload, 1) := by decide +kernel
theorem dX4_conflicts_101 : decode cX4_conflicts 101 = .ok (.invokevirtual 101, 3) := by decide +kernel
theorem dX4_conflicts_104 : decode cX4_conflicts 104 = .ok (.ifCond .eq 7, 3) := by decide +kernel
theorem dX4_conflicts_107 : decode cX4_conflicts 107 = .ok (.iconst 1, 1) := by decide +kernel
theorem dX4_conflicts_108 : decode cX4_conflicts 108 = .ok (.goto 4, 3) := by decide +kernel
theorem dX4_conflicts_111 : decode cX4_conflicts 111 = .ok (.iconst 0, 1) := by decide +kernel
theorem dX4_conflicts_112 : decode cX4_conflicts 112 = .ok (.istore 8, 2) := by decide +kernel
theorem dX4_conflicts_114 : decode cX4_conflicts 114 = .ok (.iload 4, 2) := by decide +kernel
theorem dX4_conflicts_116 : decode cX4_conflicts 116 = .ok (.ifCond .eq 18, 3) := by decide +kernel
theorem dX4_conflicts_119 : decode cX4_conflicts 119 = .ok (.iload 8, 2) := by decide +kernel
theorem dX4_conflicts_121 : decode cX4_conflicts 121 = .ok (.ifCond .eq 9, 3) := by decide +kernel
theorem dX4_conflicts_124 : decode cX4_conflicts 124 = .ok (.iload 7, 2) := by decide +kernel
theorem dX4_conflicts_126 : decode cX4_conflicts 126 = .ok (.iload_n 3, 1) := by decide +kernel
theorem dX4_conflicts_127 : decode cX4_conflicts 127 = .ok (.if_icmp .lt 7, 3) := by decide +kernel
theorem dX4_conflicts_130 : decode cX4_conflicts 130 = .ok (.iconst 1, 1) := by decide +kernel
theorem dX4_conflicts_131 : decode cX4_conflicts 131 = .ok (.goto 4, 3) := by decide +kernel
theorem dX4_conflicts_134 : decode cX4_conflicts 134 = .ok (.iconst 0, 1) := by decide +kernel
theorem dX4_conflicts_135 : decode cX4_conflicts 135 = .ok (.istore 4, 2) := by decide +kernel
theorem dX4_conflicts_137 : decode cX4_conflicts 137 = .ok (.iload 5, 2) := by decide +kernel
theorem dX4_conflicts_139 : decode cX4_conflicts 139 = .ok (.ifCond .ne 8, 3) := by decide +kernel
theorem dX4_conflicts_142 : decode cX4_conflicts 142 = .ok (.iload 8, 2) := by decide +kernel
theorem dX4_conflicts_144 : decode cX4_conflicts 144 = .ok (.ifCond .eq 7, 3) := by decide +kernel
theorem dX4_conflicts_147 : decode cX4_conflicts 147 = .ok (.iconst 1, 1) := by decide +kernel
theorem dX4_conflicts_148 : decode cX4_conflicts 148 = .ok (.goto 4, 3) := by decide +kernel
theorem dX4_conflicts_151 : decode cX4_conflicts 151 = .ok (.iconst 0, 1) := by decide +kernel
theorem dX4_conflicts_152 : decode cX4_conflicts 152 = .ok (.istore 5, 2) := by decide +kernel
theorem dX4_conflicts_154 : decode cX4_conflicts 154 = .ok (.iload 6, 2) := by decide +kernel
theorem dX4_conflicts_156 : decode cX4_conflicts 156 = .ok (.ifCond .eq 22, 3) := by decide +kernel
theorem dX4_conflicts_159 : decode cX4_conflicts 159 = .ok (.iload 8, 2) := by decide +kernel
theorem dX4_conflicts_161 : decode cX4_conflicts 161 = .ok (.ifCond .eq 13, 3) := by decide +kernel
theorem dX4_conflicts_164 : decode cX4_conflicts 164 = .ok (.aload_n 0, 1) := by decide +kernel
theorem dX4_conflicts_165 : decode cX4_conflicts 165 = .ok (.getfield 40, 3) := by decide +kernel
theorem dX4_conflicts_168 : decode cX4_conflicts 168 = .ok (.iload 7, 2) := by decide +kernel
theorem dX4_conflicts_170 : decode cX4_conflicts 170 = .ok (.baload, 1) := by decide +kernel
theorem dX4_conflicts_171 : decode cX4_conflicts 171 = .ok (.ifCond .ne 7, 3) := by decide +kernel
theorem dX4_conflicts_174 : decode cX4_conflicts 174 = .ok (.iconst 1, 1) := by decide +kernel
theorem dX4_conflicts_175 : decode cX4_conflicts 175 = .ok (.goto 4, 3) := by decide +kernel
theorem dX4_conflicts_178 : decode cX4_conflicts 178 = .ok (.iconst 0, 1) := by decide +kernel
theorem dX4_conflicts_179 : decode cX4_conflicts 179 = .ok (.istore 6, 2) := by decide +kernel
theorem dX4_conflicts_181 : decode cX4_conflicts 181 = .ok (.iinc 7 1, 3) := by decide +kernel
theorem dX4_conflicts_184 : decode cX4_conflicts 184 = .ok (.goto (-112), 3) := by decide +kernel
theorem dX4_conflicts_187 : decode cX4_conflicts 187 = .ok (.iload_n 2, 1) := by decide +kernel
theorem dX4_conflicts_188 : decode cX4_conflicts 188 = .ok (.iload 4, 2) := by decide +kernel
theorem dX4_conflicts_190 : decode cX4_conflicts 190 = .ok (.ifCond .eq 17, 3) := by decide +kernel
theorem dX4_conflicts_193 : decode cX4_conflicts 193 = .ok (.iload 5, 2) := by decide +kernel
theorem dX4_conflicts_195 : decode cX4_conflicts 195 = .ok (.ifCond .eq 12, 3) := by decide +kernel
theorem dX4_conflicts_198 : decode cX4_conflicts 198 = .ok (.iload 6, 2) := by decide +kernel
theorem dX4_conflicts_200 : decode cX4_conflicts 200 = .ok (.ifCond .eq 7, 3) := by decide +kernel
theorem dX4_conflicts_203 : decode cX4_conflicts 203 = .ok (.iconst 1, 1) := by decide +kernel
theorem dX4_conflicts_204 : decode cX4_conflicts 204 = .ok (.goto 4, 3) := by decide +kernel
theorem dX4_conflicts_207 : decode cX4_conflicts 207 = .ok (.iconst 0, 1) := by decide +kernel
theorem dX4_conflicts_208 : decode cX4_conflicts 208 = .ok (.iadd, 1) := by decide +kernel
theorem dX4_conflicts_209 : decode cX4_conflicts 209 = .ok (.istore_n 2, 1) := by decide +kernel
theorem dX4_conflicts_210 : decode cX4_conflicts 210 = .ok (.iinc 3 1, 3) := by decide +kernel
theorem dX4_conflicts_213 : decode cX4_conflicts 213 = .ok (.goto (-185), 3) := by decide +kernel
theorem dX4_conflicts_216 : decode cX4_conflicts 216 = .ok (.iload_n 2, 1) := by decide +kernel
theorem dX4_conflicts_217 : decode cX4_conflicts 217 = .ok (.ireturn, 1) := by decide +kernel
theorem dX4_settle_0 : decode cX4_settle 0 = .ok (.iload_n 1, 1) := by decide +kernel
theorem dX4_settle_1 : decode cX4_settle 1 = .ok (.bipush 127, 2) := by decide +kernel
theorem dX4_settle_3 : decode cX4_settle 3 = .ok (.iand, 1) := by decide +kernel
theorem dX4_settle_4 : decode cX4_settle 4 = .ok (.istore_n 3, 1) := by decide +kernel
theorem dX4_settle_5 : decode cX4_settle 5 = .ok (.iload_n 1, 1) := by decide +kernel
theorem dX4_settle_6 : decode cX4_settle 6 = .ok (.bipush 7, 2) := by decide +kernel
theorem dX4_settle_8 : decode cX4_settle 8 = .ok (.ishr, 1) := by decide +kernel
theorem dX4_settle_9 : decode cX4_settle 9 = .ok (.iconst 3, 1) := by decide +kernel
theorem dX4_settle_10 : decode cX4_settle 10 = .ok (.iand, 1) := by decide +kernel
theorem dX4_settle_11 : decode cX4_settle 11 = .ok (.istore 4, 2) := by decide +kernel
theorem dX4_settle_13 : decode cX4_settle 13 = .ok (.iload_n 1, 1) := by decide +kernel
theorem dX4_settle_14 : decode cX4_settle 14 = .ok (.bipush 9, 2) := by decide +kernel
theorem dX4_settle_16 : decode cX4_settle 16 = .ok (.ishr, 1) := by decide +kernel
theorem dX4_settle_17 : decode cX4_settle 17 = .ok (.istore 5, 2) := by decide +kernel
theorem dX4_settle_19 : decode cX4_settle 19 = .ok (.iconst (-1), 1) := by decide +kernel
theorem dX4_settle_20 : decode cX4_settle 20 = .ok (.istore 6, 2) := by decide +kernel
theorem dX4_settle_22 : decode cX4_settle 22 = .ok (.iconst 0, 1) := by decide +kernel
theorem dX4_settle_23 : decode cX4_settle 23 = .ok (.istore 7, 2) := by decide +kernel
theorem dX4_settle_25 : decode cX4_settle 25 = .ok (.iconst 0, 1) := by decide +kernel
theorem dX4_settle_26 : decode cX4_settle 26 = .ok (.istore 8, 2) := by decide +kernel
theorem dX4_settle_28 : decode cX4_settle 28 = .ok (.iload 8, 2) := by decide +kernel
theorem dX4_settle_30 : decode cX4_settle 30 = .ok (.aload_n 0, 1) := by decide +kernel
theorem dX4_settle_31 : decode cX4_settle 31 = .ok (.getfield 74, 3) := by decide +kernel
theorem dX4_settle_34 : decode cX4_settle 34 = .ok (.if_icmp .ge 62, 3) := by decide +kernel
theorem dX4_settle_37 : decode cX4_settle 37 = .ok (.aload_n 0, 1) := by decide +kernel
theorem dX4_settle_38 : decode cX4_settle 38 = .ok (.getfield 22, 3) := by decide +kernel
theorem dX4_settle_41 : decode cX4_settle 41 = .ok (.iload 8, 2) := by decide +kernel
theorem dX4_settle_43 : decode cX4_settle 43 = .ok (.iaload, 1) := by decide +kernel
theorem dX4_settle_44 : decode cX4_settle 44 = .ok (.iload 5, 2) := by decide +kernel
theorem dX4_settle_46 : decode cX4_settle 46 = .ok (.if_icmp .ne 44, 3) := by decide +kernel
theorem dX4_settle_49 : decode cX4_settle 49 = .ok (.aload_n 0, 1) := by decide +kernel
theorem dX4_settle_50 : decode cX4_settle 50 = .ok (.getfield 25, 3) := by decide +kernel
theorem dX4_settle_53 : decode cX4_settle 53 = .ok (.iload 8, 2) := by decide +kernel
theorem dX4_settle_55 : decode cX4_settle 55 = .ok (.iaload, 1) := by decide +kernel
theorem dX4_settle_56 : decode cX4_settle 56 = .ok (.iload 4, 2) := by decide +kernel
theorem dX4_settle_58 : decode cX4_settle 58 = .ok (.if_icmp .ne 32, 3) := by decide +kernel
theorem dX4_settle_61 : decode cX4_settle 61 = .ok (.aload_n 0, 1) := by decide +kernel
theorem dX4_settle_62 : decode cX4_settle 62 = .ok (.getfield 28, 3) := by decide +kernel
theorem dX4_settle_65 : decode cX4_settle 65 = .ok (.iload 8, 2) := by decide +kernel
theorem dX4_settle_67 : decode cX4_settle 67 = .ok (.iaload, 1) := by decide +kernel
theorem dX4_settle_68 : decode cX4_settle 68 = .ok (.iload_n 3, 1) := by decide +kernel
theorem dX4_settle_69 : decode cX4_settle 69 = .ok (.if_icmp .ne 21, 3) := by decide +kernel
theorem dX4_settle_72 : decode cX4_settle 72 = .ok (.iload 7, 2) := by decide +kernel
theorem dX4_settle_74 : decode cX4_settle 74 = .ok (.iload_n 2, 1) := by decide +kernel
theorem dX4_settle_75 : decode cX4_settle 75 = .ok (.if_icmp .ne 8, 3) := by decide +kernel
theorem dX4_settle_78 : decode cX4_settle 78 = .ok (.iload 8, 2) := by decide +kernel
theorem dX4_settle_80 : decode cX4_settle 80 = .ok (.goto 5, 3) := by decide +kernel
theorem dX4_settle_83 : decode cX4_settle 83 = .ok (.iload 6, 2) := by decide +kernel
theorem dX4_settle_85 : decode cX4_settle 85 = .ok (.istore 6, 2) := by decide +kernel
theorem dX4_settle_87 : decode cX4_settle 87 = .ok (.iinc 7 1, 3) := by decide +kernel
theorem dX4_settle_90 : decode cX4_settle 90 = .ok (.iinc 8 1, 3) := by decide +kernel
theorem dX4_settle_93 : decode cX4_settle 93 = .ok (.goto (-65), 3) := by decide +kernel
theorem dX4_settle_96 : decode cX4_settle 96 = .ok (.aload_n 0, 1) := by decide +kernel
theorem dX4_settle_97 : decode cX4_settle 97 = .ok (.iload 6, 2) := by decide +kernel
theorem dX4_settle_99 : decode cX4_settle 99 = .ok (.ifCond .ge 7, 3) := by decide +kernel
theorem dX4_settle_102 : decode cX4_settle 102 = .ok (.iconst 1, 1) := by decide +kernel
theorem dX4_settle_103 : decode cX4_settle 103 = .ok (.goto 4, 3) := by decide +kernel
theorem dX4_settle_106 : decode cX4_settle 106 = .ok (.iconst 0, 1) := by decide +kernel
theorem dX4_settle_107 : decode cX4_settle 107 = .ok (.iconst 0, 1) := by decide +kernel
theorem dX4_settle_108 : decode cX4_settle 108 = .ok (.iconst 0, 1) := by decide +kernel
theorem dX4_settle_109 : decode cX4_settle 109 = .ok (.iconst 0, 1) := by decide +kernel
theorem dX4_settle_110 : decode cX4_settle 110 = .ok (.invokevirtual 66, 3) := by decide +kernel
theorem dX4_settle_113 : decode cX4_settle 113 = .ok (.ifCond .eq 5, 3) := by decide +kernel
theorem dX4_settle_116 : decode cX4_settle 116 = .ok (.iconst 0, 1) := by decide +kernel
theorem dX4_settle_117 : decode cX4_settle 117 = .ok (.ireturn, 1) := by decide +kernel
theorem dX4_settle_118 : decode cX4_settle 118 = .ok (.iconst 0, 1) := by decide +kernel
theorem dX4_settle_119 : decode cX4_settle 119 = .ok (.istore 8, 2) := by decide +kernel
theorem dX4_settle_121 : decode cX4_settle 121 = .ok (.iload 8, 2) := by decide +kernel
theorem dX4_settle_123 : decode cX4_settle 123 = .ok (.aload_n 0, 1) := by decide +kernel
theorem dX4_settle_124 : decode cX4_settle 124 = .ok (.getfield 74, 3) := by decide +kernel
theorem dX4_settle_127 : decode cX4_settle 127 = .ok (.if_icmp .ge 28, 3) := by decide +kernel
theorem dX4_settle_130 : decode cX4_settle 130 = .ok (.aload_n 0, 1) := by decide +kernel
theorem dX4_settle_131 : decode cX4_settle 131 = .ok (.iload 8, 2) := by decide +kernel
theorem dX4_settle_133 : decode cX4_settle 133 = .ok (.iload 6, 2) := by decide +kernel
theorem dX4_settle_135 : decode cX4_settle 135 = .ok (.invokevirtual 94, 3) := by decide +kernel
theorem dX4_settle_138 : decode cX4_settle 138 = .ok (.ifCond .eq 11, 3) := by decide +kernel
theorem dX4_settle_141 : decode cX4_settle 141 = .ok (.aload_n 0, 1) := by decide +kernel
theorem dX4_settle_142 : decode cX4_settle 142 = .ok (.getfield 40, 3) := by decide +kernel
theorem dX4_settle_145 : decode cX4_settle 145 = .ok (.iload 8, 2) := by decide +kernel
theorem dX4_settle_147 : decode cX4_settle 147 = .ok (.iconst 0, 1) := by decide +kernel
theorem dX4_settle_148 : decode cX4_settle 148 = .ok (.bastore, 1) := by decide +kernel
theorem dX4_settle_149 : decode cX4_settle 149 = .ok (.iinc 8 1, 3) := by decide +kernel
theorem dX4_settle_152 : decode cX4_settle 152 = .ok (.goto (-31), 3) := by decide +kernel
theorem dX4_settle_155 : decode cX4_settle 155 = .ok (.aload_n 0, 1) := by decide +kernel
theorem dX4_settle_156 : decode cX4_settle 156 = .ok (.getfield 40, 3) := by decide +kernel
theorem dX4_settle_159 : decode cX4_settle 159 = .ok (.iload 6, 2) := by decide +kernel
theorem dX4_settle_161 : decode cX4_settle 161 = .ok (.iconst 1, 1) := by decide +kernel
theorem dX4_settle_162 : decode cX4_settle 162 = .ok (.bastore, 1) := by decide +kernel
theorem dX4_settle_163 : decode cX4_settle 163 = .ok (.aload_n 0, 1) := by decide +kernel
theorem dX4_settle_164 : decode cX4_settle 164 = .ok (.getfield 34, 3) := by decide +kernel
theorem dX4_settle_167 : decode cX4_settle 167 = .ok (.iload 6, 2) := by decide +kernel
theorem dX4_settle_169 : decode cX4_settle 169 = .ok (.iaload, 1) := by decide +kernel
theorem dX4_settle_170 : decode cX4_settle 170 = .ok (.ireturn, 1) := by decide +kernel
theorem dX4_last_0 : decode cX4_last 0 = .ok (.iload_n 1, 1) := by decide +kernel
theorem dX4_last_1 : decode cX4_last 1 = .ok (.invokestatic 77, 3) := by decide +kernel
theorem dX4_last_4 : decode cX4_last 4 = .ok (.ifCond .eq 24, 3) := by decide +kernel
theorem dX4_last_7 : decode cX4_last 7 = .ok (.iload_n 2, 1) := by decide +kernel
theorem dX4_last_8 : decode cX4_last 8 = .ok (.i2l, 1) := by decide +kernel
theorem dX4_last_9 : decode cX4_last 9 = .ok (.iconst 0, 1) := by decide +kernel
theorem dX4_last_10 : decode cX4_last 10 = .ok (.bipush 7, 2) := by decide +kernel
theorem dX4_last_12 : decode cX4_last 12 = .ok (.invokestatic 57, 3) := by decide +kernel
theorem dX4_last_15 : decode cX4_last 15 = .ok (.ifCond .eq 13, 3) := by decide +kernel
theorem dX4_last_18 : decode cX4_last 18 = .ok (.iload_n 3, 1) := by decide +kernel
theorem dX4_last_19 : decode cX4_last 19 = .ok (.i2l, 1) := by decide +kernel
theorem dX4_last_20 : decode cX4_last 20 = .ok (.iconst 0, 1) := by decide +kernel
theorem dX4_last_21 : decode cX4_last 21 = .ok (.iconst 4, 1) := by decide +kernel
theorem dX4_last_22 : decode cX4_last 22 = .ok (.invokestatic 57, 3) := by decide +kernel
theorem dX4_last_25 : decode cX4_last 25 = .ok (.ifCond .ne 7, 3) := by decide +kernel
theorem dX4_last_28 : decode cX4_last 28 = .ok (.iconst 1, 1) := by decide +kernel
theorem dX4_last_29 : decode cX4_last 29 = .ok (.goto 4, 3) := by decide +kernel
theorem dX4_last_32 : decode cX4_last 32 = .ok (.iconst 0, 1) := by decide +kernel
theorem dX4_last_33 : decode cX4_last 33 = .ok (.istore 4, 2) := by decide +kernel
theorem dX4_last_35 : decode cX4_last 35 = .ok (.iload 4, 2) := by decide +kernel
theorem dX4_last_37 : decode cX4_last 37 = .ok (.ifCond .eq 7, 3) := by decide +kernel
theorem dX4_last_40 : decode cX4_last 40 = .ok (.iconst (-1), 1) := by decide +kernel
theorem dX4_last_41 : decode cX4_last 41 = .ok (.goto 15, 3) := by decide +kernel
theorem dX4_last_44 : decode cX4_last 44 = .ok (.aload_n 0, 1) := by decide +kernel
theorem dX4_last_45 : decode cX4_last 45 = .ok (.iload_n 1, 1) := by decide +kernel
theorem dX4_last_46 : decode cX4_last 46 = .ok (.iload_n 2, 1) := by decide +kernel
theorem dX4_last_47 : decode cX4_last 47 = .ok (.aload_n 0, 1) := by decide +kernel
theorem dX4_last_48 : decode cX4_last 48 = .ok (.getfield 47, 3) := by decide +kernel
theorem dX4_last_51 : decode cX4_last 51 = .ok (.iload_n 1, 1) := by decide +kernel
theorem dX4_last_52 : decode cX4_last 52 = .ok (.iaload, 1) := by decide +kernel
theorem dX4_last_53 : decode cX4_last 53 = .ok (.invokevirtual 111, 3) := by decide +kernel
theorem dX4_last_56 : decode cX4_last 56 = .ok (.istore 5, 2) := by decide +kernel
theorem dX4_last_58 : decode cX4_last 58 = .ok (.aload_n 0, 1) := by decide +kernel
theorem dX4_last_59 : decode cX4_last 59 = .ok (.iload 4, 2) := by decide +kernel
theorem dX4_last_61 : decode cX4_last 61 = .ok (.iload 5, 2) := by decide +kernel
theorem dX4_last_63 : decode cX4_last 63 = .ok (.ifCond .ge 7, 3) := by decide +kernel
theorem dX4_last_66 : decode cX4_last 66 = .ok (.iconst 1, 1) := by decide +kernel
theorem dX4_last_67 : decode cX4_last 67 = .ok (.goto 4, 3) := by decide +kernel
theorem dX4_last_70 : decode cX4_last 70 = .ok (.iconst 0, 1) := by decide +kernel
theorem dX4_last_71 : decode cX4_last 71 = .ok (.iconst 0, 1) := by decide +kernel
theorem dX4_last_72 : decode cX4_last 72 = .ok (.iconst 0, 1) := by decide +kernel
theorem dX4_last_73 : decode cX4_last 73 = .ok (.invokevirtual 66, 3) := by decide +kernel
theorem dX4_last_76 : decode cX4_last 76 = .ok (.ifCond .eq 5, 3) := by decide +kernel
theorem dX4_last_79 : decode cX4_last 79 = .ok (.iconst 0, 1) := by decide +kernel
theorem dX4_last_80 : decode cX4_last 80 = .ok (.ireturn, 1) := by decide +kernel
theorem dX4_last_81 : decode cX4_last 81 = .ok (.iload_n 3, 1) := by decide +kernel
theorem dX4_last_82 : decode cX4_last 82 = .ok (.iconst 2, 1) := by decide +kernel
theorem dX4_last_83 : decode cX4_last 83 = .ok (.if_icmp .ge 36, 3) := by decide +kernel
theorem dX4_last_86 : decode cX4_last 86 = .ok (.iload_n 3, 1) := by decide +kernel
theorem dX4_last_87 : decode cX4_last 87 = .ok (.ifCond .ne 13, 3) := by decide +kernel
theorem dX4_last_90 : decode cX4_last 90 = .ok (.aload_n 0, 1) := by decide +kernel
theorem dX4_last_91 : decode cX4_last 91 = .ok (.getfield 34, 3) := by decide +kernel
theorem dX4_last_94 : decode cX4_last 94 = .ok (.iload 5, 2) := by decide +kernel
theorem dX4_last_96 : decode cX4_last 96 = .ok (.iaload, 1) := by decide +kernel
theorem dX4_last_97 : decode cX4_last 97 = .ok (.goto 21, 3) := by decide +kernel
theorem dX4_last_100 : decode cX4_last 100 = .ok (.aload_n 0, 1) := by decide +kernel
theorem dX4_last_101 : decode cX4_last 101 = .ok (.aload_n 0, 1) := by decide +kernel
theorem dX4_last_102 : decode cX4_last 102 = .ok (.getfield 22, 3) := by decide +kernel
theorem dX4_last_105 : decode cX4_last 105 = .ok (.iload 5, 2) := by decide +kernel
theorem dX4_last_107 : decode cX4_last 107 = .ok (.iaload, 1) := by decide +kernel
theorem dX4_last_108 : decode cX4_last 108 = .ok (.aload_n 0, 1) := by decide +kernel
theorem dX4_last_109 : decode cX4_last 109 = .ok (.getfield 37, 3) := by decide +kernel
theorem dX4_last_112 : decode cX4_last 112 = .ok (.iload 5, 2) := by decide +kernel
theorem dX4_last_114 : decode cX4_last 114 = .ok (.iaload, 1) := by decide +kernel
theorem dX4_last_115 : decode cX4_last 115 = .ok (.invokevirtual 70, 3) := by decide +kernel
theorem dX4_last_118 : decode cX4_last 118 = .ok (.ireturn, 1) := by decide +kernel
theorem dX4_last_119 : decode cX4_last 119 = .ok (.iload_n 3, 1) := by decide +kernel
theorem dX4_last_120 : decode cX4_last 120 = .ok (.iconst 2, 1) := by decide +kernel
theorem dX4_last_121 : decode cX4_last 121 = .ok (.if_icmp .ne 13, 3) := by decide +kernel
theorem dX4_last_124 : decode cX4_last 124 = .ok (.aload_n 0, 1) := by decide +kernel
theorem dX4_last_125 : decode cX4_last 125 = .ok (.getfield 22, 3) := by decide +kernel
theorem dX4_last_128 : decode cX4_last 128 = .ok (.iload 5, 2) := by decide +kernel
theorem dX4_last_130 : decode cX4_last 130 = .ok (.iaload, 1) := by decide +kernel
theorem dX4_last_131 : decode cX4_last 131 = .ok (.goto 25, 3) := by decide +kernel
theorem dX4_last_134 : decode cX4_last 134 = .ok (.iload_n 3, 1) := by decide +kernel
theorem dX4_last_135 : decode cX4_last 135 = .ok (.iconst 3, 1) := by decide +kernel
theorem dX4_last_136 : decode cX4_last 136 = .ok (.if_icmp .ne 13, 3) := by decide +kernel
theorem dX4_last_139 : decode cX4_last 139 = .ok (.aload_n 0, 1) := by decide +kernel
theorem dX4_last_140 : decode cX4_last 140 = .ok (.getfield 28, 3) := by decide +kernel
theorem dX4_last_143 : decode cX4_last 143 = .ok (.iload 5, 2) := by decide +kernel
theorem dX4_last_145 : decode cX4_last 145 = .ok (.iaload, 1) := by decide +kernel
theorem dX4_last_146 : decode cX4_last 146 = .ok (.goto 10, 3) := by decide +kernel
theorem dX4_last_149 : decode cX4_last 149 = .ok (.aload_n 0, 1) := by decide +kernel
theorem dX4_last_150 : decode cX4_last 150 = .ok (.getfield 25, 3) := by decide +kernel
theorem dX4_last_153 : decode cX4_last 153 = .ok (.iload 5, 2) := by decide +kernel
theorem dX4_last_155 : decode cX4_last 155 = .ok (.iaload, 1) := by decide +kernel
theorem dX4_last_156 : decode cX4_last 156 = .ok (.ireturn, 1) := by decide +kernel
theorem dX4_lastOf_0 : decode cX4_lastOf 0 = .ok (.iconst (-1), 1) := by decide +kernel
theorem dX4_lastOf_1 : decode cX4_lastOf 1 = .ok (.istore 4, 2) := by decide +kernel
theorem dX4_lastOf_3 : decode cX4_lastOf 3 = .ok (.iconst 0, 1) := by decide +kernel
theorem dX4_lastOf_4 : decode cX4_lastOf 4 = .ok (.istore 5, 2) := by decide +kernel
theorem dX4_lastOf_6 : decode cX4_lastOf 6 = .ok (.iload 5, 2) := by decide +kernel
theorem dX4_lastOf_8 : decode cX4_lastOf 8 = .ok (.aload_n 0, 1) := by decide +kernel
theorem dX4_lastOf_9 : decode cX4_lastOf 9 = .ok (.getfield 74, 3) := by decide +kernel
theorem dX4_lastOf_12 : decode cX4_lastOf 12 = .ok (.if_icmp .ge 51, 3) := by decide +kernel
theorem dX4_lastOf_15 : decode cX4_lastOf 15 = .ok (.aload_n 0, 1) := by decide +kernel
theorem dX4_lastOf_16 : decode cX4_lastOf 16 = .ok (.getfield 31, 3) := by decide +kernel
theorem dX4_lastOf_19 : decode cX4_lastOf 19 = .ok (.iload 5, 2) := by decide +kernel
theorem dX4_lastOf_21 : decode cX4_lastOf 21 = .ok (.iaload, 1) := by decide +kernel
theorem dX4_lastOf_22 : decode cX4_lastOf 22 = .ok (.iload_n 2, 1) := by decide +kernel
theorem dX4_lastOf_23 : decode cX4_lastOf 23 = .ok (.if_icmp .ne 34, 3) := by decide +kernel
theorem dX4_lastOf_26 : decode cX4_lastOf 26 = .ok (.aload_n 0, 1) := by decide +kernel
theorem dX4_lastOf_27 : decode cX4_lastOf 27 = .ok (.iload_n 1, 1) := by decide +kernel
theorem dX4_lastOf_28 : decode cX4_lastOf 28 = .ok (.iload 5, 2) := by decide +kernel
theorem dX4_lastOf_30 : decode cX4_lastOf 30 = .ok (.iload_n 3, 1) := by decide +kernel
theorem dX4_lastOf_31 : decode cX4_lastOf 31 = .ok (.invokevirtual 105, 3) := by decide +kernel
theorem dX4_lastOf_34 : decode cX4_lastOf 34 = .ok (.ifCond .eq 23, 3) := by decide +kernel
theorem dX4_lastOf_37 : decode cX4_lastOf 37 = .ok (.iload 4, 2) := by decide +kernel
theorem dX4_lastOf_39 : decode cX4_lastOf 39 = .ok (.ifCond .lt 14, 3) := by decide +kernel
theorem dX4_lastOf_42 : decode cX4_lastOf 42 = .ok (.aload_n 0, 1) := by decide +kernel
theorem dX4_lastOf_43 : decode cX4_lastOf 43 = .ok (.iload 5, 2) := by decide +kernel
theorem dX4_lastOf_45 : decode cX4_lastOf 45 = .ok (.iload 4, 2) := by decide +kernel
theorem dX4_lastOf_47 : decode cX4_lastOf 47 = .ok (.invokevirtual 108, 3) := by decide +kernel
theorem dX4_lastOf_50 : decode cX4_lastOf 50 = .ok (.ifCond .eq 7, 3) := by decide +kernel
theorem dX4_lastOf_53 : decode cX4_lastOf 53 = .ok (.iload 5, 2) := by decide +kernel
theorem dX4_lastOf_55 : decode cX4_lastOf 55 = .ok (.istore 4, 2) := by decide +kernel
theorem dX4_lastOf_57 : decode cX4_lastOf 57 = .ok (.iinc 5 1, 3) := by decide +kernel
theorem dX4_lastOf_60 : decode cX4_lastOf 60 = .ok (.goto (-54), 3) := by decide +kernel
theorem dX4_lastOf_63 : decode cX4_lastOf 63 = .ok (.iload 4, 2) := by decide +kernel
theorem dX4_lastOf_65 : decode cX4_lastOf 65 = .ok (.ireturn, 1) := by decide +kernel
theorem dX4_counts_0 : decode cX4_counts 0 = .ok (.aload_n 0, 1) := by decide +kernel
theorem dX4_counts_1 : decode cX4_counts 1 = .ok (.iload_n 1, 1) := by decide +kernel
theorem dX4_counts_2 : decode cX4_counts 2 = .ok (.iload_n 2, 1) := by decide +kernel
theorem dX4_counts_3 : decode cX4_counts 3 = .ok (.iload_n 3, 1) := by decide +kernel
theorem dX4_counts_4 : decode cX4_counts 4 = .ok (.invokevirtual 101, 3) := by decide +kernel
theorem dX4_counts_7 : decode cX4_counts 7 = .ok (.ifCond .ne 5, 3) := by decide +kernel
theorem dX4_counts_10 : decode cX4_counts 10 = .ok (.iconst 0, 1) := by decide +kernel
theorem dX4_counts_11 : decode cX4_counts 11 = .ok (.ireturn, 1) := by decide +kernel
theorem dX4_counts_12 : decode cX4_counts 12 = .ok (.aload_n 0, 1) := by decide +kernel
theorem dX4_counts_13 : decode cX4_counts 13 = .ok (.getfield 40, 3) := by decide +kernel
theorem dX4_counts_16 : decode cX4_counts 16 = .ok (.iload_n 2, 1) := by decide +kernel
theorem dX4_counts_17 : decode cX4_counts 17 = .ok (.baload, 1) := by decide +kernel
theorem dX4_counts_18 : decode cX4_counts 18 = .ok (.istore 4, 2) := by decide +kernel
theorem dX4_counts_20 : decode cX4_counts 20 = .ok (.iconst 0, 1) := by decide +kernel
theorem dX4_counts_21 : decode cX4_counts 21 = .ok (.istore 5, 2) := by decide +kernel
theorem dX4_counts_23 : decode cX4_counts 23 = .ok (.iconst 0, 1) := by decide +kernel
theorem dX4_counts_24 : decode cX4_counts 24 = .ok (.istore 6, 2) := by decide +kernel
theorem dX4_counts_26 : decode cX4_counts 26 = .ok (.iload 6, 2) := by decide +kernel
theorem dX4_counts_28 : decode cX4_counts 28 = .ok (.aload_n 0, 1) := by decide +kernel
theorem dX4_counts_29 : decode cX4_counts 29 = .ok (.getfield 74, 3) := by decide +kernel
theorem dX4_counts_32 : decode cX4_counts 32 = .ok (.if_icmp .ge 74, 3) := by decide +kernel
theorem dX4_counts_35 : decode cX4_counts 35 = .ok (.iload 4, 2) := by decide +kernel
theorem dX4_counts_37 : decode cX4_counts 37 = .ok (.ifCond .ne 23, 3) := by decide +kernel
theorem dX4_counts_40 : decode cX4_counts 40 = .ok (.aload_n 0, 1) := by decide +kernel
theorem dX4_counts_41 : decode cX4_counts 41 = .ok (.iload_n 2, 1) := by decide +kernel
theorem dX4_counts_42 : decode cX4_counts 42 = .ok (.iload 6, 2) := by decide +kernel
theorem dX4_counts_44 : decode cX4_counts 44 = .ok (.invokevirtual 94, 3) := by decide +kernel
theorem dX4_counts_47 : decode cX4_counts 47 = .ok (.ifCond .eq 17, 3) := by decide +kernel
theorem dX4_counts_50 : decode cX4_counts 50 = .ok (.aload_n 0, 1) := by decide +kernel
theorem dX4_counts_51 : decode cX4_counts 51 = .ok (.getfield 40, 3) := by decide +kernel
theorem dX4_counts_54 : decode cX4_counts 54 = .ok (.iload 6, 2) := by decide +kernel
theorem dX4_counts_56 : decode cX4_counts 56 = .ok (.baload, 1) := by decide +kernel
theorem dX4_counts_57 : decode cX4_counts 57 = .ok (.ifCond .eq 7, 3) := by decide +kernel
theorem dX4_counts_60 : decode cX4_counts 60 = .ok (.iconst 1, 1) := by decide +kernel
theorem dX4_counts_61 : decode cX4_counts 61 = .ok (.goto 4, 3) := by decide +kernel
theorem dX4_counts_64 : decode cX4_counts 64 = .ok (.iconst 0, 1) := by decide +kernel
theorem dX4_counts_65 : decode cX4_counts 65 = .ok (.istore 4, 2) := by decide +kernel
theorem dX4_counts_67 : decode cX4_counts 67 = .ok (.iload 5, 2) := by decide +kernel
theorem dX4_counts_69 : decode cX4_counts 69 = .ok (.ifCond .ne 24, 3) := by decide +kernel
theorem dX4_counts_72 : decode cX4_counts 72 = .ok (.aload_n 0, 1) := by decide +kernel
theorem dX4_counts_73 : decode cX4_counts 73 = .ok (.iload_n 2, 1) := by decide +kernel
theorem dX4_counts_74 : decode cX4_counts 74 = .ok (.iload 6, 2) := by decide +kernel
theorem dX4_counts_76 : decode cX4_counts 76 = .ok (.invokevirtual 94, 3) := by decide +kernel
theorem dX4_counts_79 : decode cX4_counts 79 = .ok (.ifCond .eq 18, 3) := by decide +kernel
theorem dX4_counts_82 : decode cX4_counts 82 = .ok (.aload_n 0, 1) := by decide +kernel
theorem dX4_counts_83 : decode cX4_counts 83 = .ok (.iload_n 1, 1) := by decide +kernel
theorem dX4_counts_84 : decode cX4_counts 84 = .ok (.iload 6, 2) := by decide +kernel
theorem dX4_counts_86 : decode cX4_counts 86 = .ok (.iload_n 3, 1) := by decide +kernel
theorem dX4_counts_87 : decode cX4_counts 87 = .ok (.invokevirtual 101, 3) := by decide +kernel
theorem dX4_counts_90 : decode cX4_counts 90 = .ok (.ifCond .eq 7, 3) := by decide +kernel
theorem dX4_counts_93 : decode cX4_counts 93 = .ok (.iconst 1, 1) := by decide +kernel
theorem dX4_counts_94 : decode cX4_counts 94 = .ok (.goto 4, 3) := by decide +kernel
theorem dX4_counts_97 : decode cX4_counts 97 = .ok (.iconst 0, 1) := by decide +kernel
theorem dX4_counts_98 : decode cX4_counts 98 = .ok (.istore 5, 2) := by decide +kernel
theorem dX4_counts_100 : decode cX4_counts 100 = .ok (.iinc 6 1, 3) := by decide +kernel
theorem dX4_counts_103 : decode cX4_counts 103 = .ok (.goto (-77), 3) := by decide +kernel
theorem dX4_counts_106 : decode cX4_counts 106 = .ok (.iload 4, 2) := by decide +kernel
theorem dX4_counts_108 : decode cX4_counts 108 = .ok (.ifCond .eq 12, 3) := by decide +kernel
theorem dX4_counts_111 : decode cX4_counts 111 = .ok (.aload_n 0, 1) := by decide +kernel
theorem dX4_counts_112 : decode cX4_counts 112 = .ok (.getfield 40, 3) := by decide +kernel
theorem dX4_counts_115 : decode cX4_counts 115 = .ok (.iload_n 2, 1) := by decide +kernel
theorem dX4_counts_116 : decode cX4_counts 116 = .ok (.baload, 1) := by decide +kernel
theorem dX4_counts_117 : decode cX4_counts 117 = .ok (.goto 13, 3) := by decide +kernel
theorem dX4_counts_120 : decode cX4_counts 120 = .ok (.iload 5, 2) := by decide +kernel
theorem dX4_counts_122 : decode cX4_counts 122 = .ok (.ifCond .ne 7, 3) := by decide +kernel
theorem dX4_counts_125 : decode cX4_counts 125 = .ok (.iconst 1, 1) := by decide +kernel
theorem dX4_counts_126 : decode cX4_counts 126 = .ok (.goto 4, 3) := by decide +kernel
theorem dX4_counts_129 : decode cX4_counts 129 = .ok (.iconst 0, 1) := by decide +kernel
theorem dX4_counts_130 : decode cX4_counts 130 = .ok (.ireturn, 1) := by decide +kernel
theorem dX4_isLater_0 : decode cX4_isLater 0 = .ok (.aload_n 0, 1) := by decide +kernel
theorem dX4_isLater_1 : decode cX4_isLater 1 = .ok (.aload_n 0, 1) := by decide +kernel
theorem dX4_isLater_2 : decode cX4_isLater 2 = .ok (.getfield 22, 3) := by decide +kernel
theorem dX4_isLater_5 : decode cX4_isLater 5 = .ok (.iload_n 1, 1) := by decide +kernel
theorem dX4_isLater_6 : decode cX4_isLater 6 = .ok (.iaload, 1) := by decide +kernel
theorem dX4_isLater_7 : decode cX4_isLater 7 = .ok (.aload_n 0, 1) := by decide +kernel
theorem dX4_isLater_8 : decode cX4_isLater 8 = .ok (.getfield 37, 3) := by decide +kernel
theorem dX4_isLater_11 : decode cX4_isLater 11 = .ok (.iload_n 1, 1) := by decide +kernel
theorem dX4_isLater_12 : decode cX4_isLater 12 = .ok (.iaload, 1) := by decide +kernel
theorem dX4_isLater_13 : decode cX4_isLater 13 = .ok (.invokevirtual 70, 3) := by decide +kernel
theorem dX4_isLater_16 : decode cX4_isLater 16 = .ok (.istore_n 3, 1) := by decide +kernel
theorem dX4_isLater_17 : decode cX4_isLater 17 = .ok (.aload_n 0, 1) := by decide +kernel
theorem dX4_isLater_18 : decode cX4_isLater 18 = .ok (.aload_n 0, 1) := by decide +kernel
theorem dX4_isLater_19 : decode cX4_isLater 19 = .ok (.getfield 22, 3) := by decide +kernel
theorem dX4_isLater_22 : decode cX4_isLater 22 = .ok (.iload_n 2, 1) := by decide +kernel
theorem dX4_isLater_23 : decode cX4_isLater 23 = .ok (.iaload, 1) := by decide +kernel
theorem dX4_isLater_24 : decode cX4_isLater 24 = .ok (.aload_n 0, 1) := by decide +kernel
theorem dX4_isLater_25 : decode cX4_isLater 25 = .ok (.getfield 37, 3) := by decide +kernel
theorem dX4_isLater_28 : decode cX4_isLater 28 = .ok (.iload_n 2, 1) := by decide +kernel
theorem dX4_isLater_29 : decode cX4_isLater 29 = .ok (.iaload, 1) := by decide +kernel
theorem dX4_isLater_30 : decode cX4_isLater 30 = .ok (.invokevirtual 70, 3) := by decide +kernel
theorem dX4_isLater_33 : decode cX4_isLater 33 = .ok (.istore 4, 2) := by decide +kernel
theorem dX4_isLater_35 : decode cX4_isLater 35 = .ok (.iload_n 3, 1) := by decide +kernel
theorem dX4_isLater_36 : decode cX4_isLater 36 = .ok (.iload 4, 2) := by decide +kernel
theorem dX4_isLater_38 : decode cX4_isLater 38 = .ok (.if_icmp .eq 15, 3) := by decide +kernel
theorem dX4_isLater_41 : decode cX4_isLater 41 = .ok (.iload_n 3, 1) := by decide +kernel
theorem dX4_isLater_42 : decode cX4_isLater 42 = .ok (.iload 4, 2) := by decide +kernel
theorem dX4_isLater_44 : decode cX4_isLater 44 = .ok (.if_icmp .le 7, 3) := by decide +kernel
theorem dX4_isLater_47 : decode cX4_isLater 47 = .ok (.iconst 1, 1) := by decide +kernel
theorem dX4_isLater_48 : decode cX4_isLater 48 = .ok (.goto 4, 3) := by decide +kernel
theorem dX4_isLater_51 : decode cX4_isLater 51 = .ok (.iconst 0, 1) := by decide +kernel
theorem dX4_isLater_52 : decode cX4_isLater 52 = .ok (.ireturn, 1) := by decide +kernel
theorem dX4_isLater_53 : decode cX4_isLater 53 = .ok (.aload_n 0, 1) := by decide +kernel
theorem dX4_isLater_54 : decode cX4_isLater 54 = .ok (.getfield 25, 3) := by decide +kernel
theorem dX4_isLater_57 : decode cX4_isLater 57 = .ok (.iload_n 1, 1) := by decide +kernel
theorem dX4_isLater_58 : decode cX4_isLater 58 = .ok (.iaload, 1) := by decide +kernel
theorem dX4_isLater_59 : decode cX4_isLater 59 = .ok (.aload_n 0, 1) := by decide +kernel
theorem dX4_isLater_60 : decode cX4_isLater 60 = .ok (.getfield 25, 3) := by decide +kernel
theorem dX4_isLater_63 : decode cX4_isLater 63 = .ok (.iload_n 2, 1) := by decide +kernel
theorem dX4_isLater_64 : decode cX4_isLater 64 = .ok (.iaload, 1) := by decide +kernel
theorem dX4_isLater_65 : decode cX4_isLater 65 = .ok (.if_icmp .eq 24, 3) := by decide +kernel
theorem dX4_isLater_68 : decode cX4_isLater 68 = .ok (.aload_n 0, 1) := by decide +kernel
theorem dX4_isLater_69 : decode cX4_isLater 69 = .ok (.getfield 25, 3) := by decide +kernel
theorem dX4_isLater_72 : decode cX4_isLater 72 = .ok (.iload_n 1, 1) := by decide +kernel
theorem dX4_isLater_73 : decode cX4_isLater 73 = .ok (.iaload, 1) := by decide +kernel
theorem dX4_isLater_74 : decode cX4_isLater 74 = .ok (.aload_n 0, 1) := by decide +kernel
theorem dX4_isLater_75 : decode cX4_isLater 75 = .ok (.getfield 25, 3) := by decide +kernel
theorem dX4_isLater_78 : decode cX4_isLater 78 = .ok (.iload_n 2, 1) := by decide +kernel
theorem dX4_isLater_79 : decode cX4_isLater 79 = .ok (.iaload, 1) := by decide +kernel
theorem dX4_isLater_80 : decode cX4_isLater 80 = .ok (.if_icmp .le 7, 3) := by decide +kernel
theorem dX4_isLater_83 : decode cX4_isLater 83 = .ok (.iconst 1, 1) := by decide +kernel
theorem dX4_isLater_84 : decode cX4_isLater 84 = .ok (.goto 4, 3) := by decide +kernel
theorem dX4_isLater_87 : decode cX4_isLater 87 = .ok (.iconst 0, 1) := by decide +kernel
theorem dX4_isLater_88 : decode cX4_isLater 88 = .ok (.ireturn, 1) := by decide +kernel
theorem dX4_isLater_89 : decode cX4_isLater 89 = .ok (.aload_n 0, 1) := by decide +kernel
theorem dX4_isLater_90 : decode cX4_isLater 90 = .ok (.getfield 22, 3) := by decide +kernel
theorem dX4_isLater_93 : decode cX4_isLater 93 = .ok (.iload_n 1, 1) := by decide +kernel
theorem dX4_isLater_94 : decode cX4_isLater 94 = .ok (.iaload, 1) := by decide +kernel
theorem dX4_isLater_95 : decode cX4_isLater 95 = .ok (.aload_n 0, 1) := by decide +kernel
theorem dX4_isLater_96 : decode cX4_isLater 96 = .ok (.getfield 22, 3) := by decide +kernel
theorem dX4_isLater_99 : decode cX4_isLater 99 = .ok (.iload_n 2, 1) := by decide +kernel
theorem dX4_isLater_100 : decode cX4_isLater 100 = .ok (.iaload, 1) := by decide +kernel
theorem dX4_isLater_101 : decode cX4_isLater 101 = .ok (.if_icmp .eq 26, 3) := by decide +kernel
theorem dX4_isLater_104 : decode cX4_isLater 104 = .ok (.aload_n 0, 1) := by decide +kernel
theorem dX4_isLater_105 : decode cX4_isLater 105 = .ok (.getfield 22, 3) := by decide +kernel
theorem dX4_isLater_108 : decode cX4_isLater 108 = .ok (.iload_n 1, 1) := by decide +kernel
theorem dX4_isLater_109 : decode cX4_isLater 109 = .ok (.iaload, 1) := by decide +kernel
theorem dX4_isLater_110 : decode cX4_isLater 110 = .ok (.aload_n 0, 1) := by decide +kernel
theorem dX4_isLater_111 : decode cX4_isLater 111 = .ok (.getfield 22, 3) := by decide +kernel
theorem dX4_isLater_114 : decode cX4_isLater 114 = .ok (.iload_n 2, 1) := by decide +kernel
theorem dX4_isLater_115 : decode cX4_isLater 115 = .ok (.iaload, 1) := by decide +kernel
theorem dX4_isLater_116 : decode cX4_isLater 116 = .ok (.if_icmp .le 7, 3) := by decide +kernel
theorem dX4_isLater_119 : decode cX4_isLater 119 = .ok (.iconst 1, 1) := by decide +kernel
theorem dX4_isLater_120 : decode cX4_isLater 120 = .ok (.goto 27, 3) := by decide +kernel
theorem dX4_isLater_123 : decode cX4_isLater 123 = .ok (.iconst 0, 1) := by decide +kernel
theorem dX4_isLater_124 : decode cX4_isLater 124 = .ok (.goto 23, 3) := by decide +kernel
theorem dX4_isLater_127 : decode cX4_isLater 127 = .ok (.aload_n 0, 1) := by decide +kernel
theorem dX4_isLater_128 : decode cX4_isLater 128 = .ok (.getfield 28, 3) := by decide +kernel
theorem dX4_isLater_131 : decode cX4_isLater 131 = .ok (.iload_n 1, 1) := by decide +kernel
theorem dX4_isLater_132 : decode cX4_isLater 132 = .ok (.iaload, 1) := by decide +kernel
theorem dX4_isLater_133 : decode cX4_isLater 133 = .ok (.aload_n 0, 1) := by decide +kernel
theorem dX4_isLater_134 : decode cX4_isLater 134 = .ok (.getfield 28, 3) := by decide +kernel
theorem dX4_isLater_137 : decode cX4_isLater 137 = .ok (.iload_n 2, 1) := by decide +kernel
theorem dX4_isLater_138 : decode cX4_isLater 138 = .ok (.iaload, 1) := by decide +kernel
theorem dX4_isLater_139 : decode cX4_isLater 139 = .ok (.if_icmp .le 7, 3) := by decide +kernel
theorem dX4_isLater_142 : decode cX4_isLater 142 = .ok (.iconst 1, 1) := by decide +kernel
theorem dX4_isLater_143 : decode cX4_isLater 143 = .ok (.goto 4, 3) := by decide +kernel
theorem dX4_isLater_146 : decode cX4_isLater 146 = .ok (.iconst 0, 1) := by decide +kernel
theorem dX4_isLater_147 : decode cX4_isLater 147 = .ok (.ireturn, 1) := by decide +kernel
theorem dX4_known_0 : decode cX4_known 0 = .ok (.iload_n 1, 1) := by decide +kernel
theorem dX4_known_1 : decode cX4_known 1 = .ok (.invokestatic 77, 3) := by decide +kernel
theorem dX4_known_4 : decode cX4_known 4 = .ok (.ifCond .eq 14, 3) := by decide +kernel
theorem dX4_known_7 : decode cX4_known 7 = .ok (.iload_n 2, 1) := by decide +kernel
theorem dX4_known_8 : decode cX4_known 8 = .ok (.i2l, 1) := by decide +kernel
theorem dX4_known_9 : decode cX4_known 9 = .ok (.iconst 0, 1) := by decide +kernel
theorem dX4_known_10 : decode cX4_known 10 = .ok (.bipush 7, 2) := by decide +kernel
theorem dX4_known_12 : decode cX4_known 12 = .ok (.invokestatic 57, 3) := by decide +kernel
theorem dX4_known_15 : decode cX4_known 15 = .ok (.ifCond .ne 7, 3) := by decide +kernel
theorem dX4_known_18 : decode cX4_known 18 = .ok (.iconst 1, 1) := by decide +kernel
theorem dX4_known_19 : decode cX4_known 19 = .ok (.goto 4, 3) := by decide +kernel
theorem dX4_known_22 : decode cX4_known 22 = .ok (.iconst 0, 1) := by decide +kernel
theorem dX4_known_23 : decode cX4_known 23 = .ok (.istore 4, 2) := by decide +kernel
theorem dX4_known_25 : decode cX4_known 25 = .ok (.iload 4, 2) := by decide +kernel
theorem dX4_known_27 : decode cX4_known 27 = .ok (.ifCond .ne 31, 3) := by decide +kernel
theorem dX4_known_30 : decode cX4_known 30 = .ok (.iload_n 3, 1) := by decide +kernel
theorem dX4_known_31 : decode cX4_known 31 = .ok (.i2l, 1) := by decide +kernel
theorem dX4_known_32 : decode cX4_known 32 = .ok (.iconst 0, 1) := by decide +kernel
theorem dX4_known_33 : decode cX4_known 33 = .ok (.aload_n 0, 1) := by decide +kernel
theorem dX4_known_34 : decode cX4_known 34 = .ok (.getfield 47, 3) := by decide +kernel
theorem dX4_known_37 : decode cX4_known 37 = .ok (.iload 4, 2) := by decide +kernel
theorem dX4_known_39 : decode cX4_known 39 = .ok (.ifCond .eq 7, 3) := by decide +kernel
theorem dX4_known_42 : decode cX4_known 42 = .ok (.iconst 0, 1) := by decide +kernel
theorem dX4_known_43 : decode cX4_known 43 = .ok (.goto 4, 3) := by decide +kernel
theorem dX4_known_46 : decode cX4_known 46 = .ok (.iload_n 1, 1) := by decide +kernel
theorem dX4_known_47 : decode cX4_known 47 = .ok (.iaload, 1) := by decide +kernel
theorem dX4_known_48 : decode cX4_known 48 = .ok (.invokestatic 57, 3) := by decide +kernel
theorem dX4_known_51 : decode cX4_known 51 = .ok (.ifCond .ne 7, 3) := by decide +kernel
theorem dX4_known_54 : decode cX4_known 54 = .ok (.iconst 1, 1) := by decide +kernel
theorem dX4_known_55 : decode cX4_known 55 = .ok (.goto 4, 3) := by decide +kernel
theorem dX4_known_58 : decode cX4_known 58 = .ok (.iconst 0, 1) := by decide +kernel
theorem dX4_known_59 : decode cX4_known 59 = .ok (.istore 5, 2) := by decide +kernel
theorem dX4_known_61 : decode cX4_known 61 = .ok (.iload 4, 2) := by decide +kernel
theorem dX4_known_63 : decode cX4_known 63 = .ok (.ifCond .ne 8, 3) := by decide +kernel
theorem dX4_known_66 : decode cX4_known 66 = .ok (.iload 5, 2) := by decide +kernel
theorem dX4_known_68 : decode cX4_known 68 = .ok (.ifCond .eq 7, 3) := by decide +kernel
theorem dX4_known_71 : decode cX4_known 71 = .ok (.iconst (-1), 1) := by decide +kernel
theorem dX4_known_72 : decode cX4_known 72 = .ok (.goto 10, 3) := by decide +kernel
theorem dX4_known_75 : decode cX4_known 75 = .ok (.aload_n 0, 1) := by decide +kernel
theorem dX4_known_76 : decode cX4_known 76 = .ok (.iload_n 1, 1) := by decide +kernel
theorem dX4_known_77 : decode cX4_known 77 = .ok (.iload_n 2, 1) := by decide +kernel
theorem dX4_known_78 : decode cX4_known 78 = .ok (.iload_n 3, 1) := by decide +kernel
theorem dX4_known_79 : decode cX4_known 79 = .ok (.invokevirtual 111, 3) := by decide +kernel
theorem dX4_known_82 : decode cX4_known 82 = .ok (.istore 6, 2) := by decide +kernel
theorem dX4_known_84 : decode cX4_known 84 = .ok (.aload_n 0, 1) := by decide +kernel
theorem dX4_known_85 : decode cX4_known 85 = .ok (.iload 4, 2) := by decide +kernel
theorem dX4_known_87 : decode cX4_known 87 = .ok (.iload 5, 2) := by decide +kernel
theorem dX4_known_89 : decode cX4_known 89 = .ok (.ifCond .ne 12, 3) := by decide +kernel
theorem dX4_known_92 : decode cX4_known 92 = .ok (.iload 6, 2) := by decide +kernel
theorem dX4_known_94 : decode cX4_known 94 = .ok (.ifCond .ge 7, 3) := by decide +kernel
theorem dX4_known_97 : decode cX4_known 97 = .ok (.iconst 1, 1) := by decide +kernel
theorem dX4_known_98 : decode cX4_known 98 = .ok (.goto 4, 3) := by decide +kernel
theorem dX4_known_101 : decode cX4_known 101 = .ok (.iconst 0, 1) := by decide +kernel
theorem dX4_known_102 : decode cX4_known 102 = .ok (.iload 5, 2) := by decide +kernel
theorem dX4_known_104 : decode cX4_known 104 = .ok (.iconst 0, 1) := by decide +kernel
theorem dX4_known_105 : decode cX4_known 105 = .ok (.invokevirtual 66, 3) := by decide +kernel
theorem dX4_known_108 : decode cX4_known 108 = .ok (.ifCond .eq 5, 3) := by decide +kernel
theorem dX4_known_111 : decode cX4_known 111 = .ok (.iconst 0, 1) := by decide +kernel
theorem dX4_known_112 : decode cX4_known 112 = .ok (.ireturn, 1) := by decide +kernel
theorem dX4_known_113 : decode cX4_known 113 = .ok (.aload_n 0, 1) := by decide +kernel
theorem dX4_known_114 : decode cX4_known 114 = .ok (.getfield 34, 3) := by decide +kernel
theorem dX4_known_117 : decode cX4_known 117 = .ok (.iload 6, 2) := by decide +kernel
theorem dX4_known_119 : decode cX4_known 119 = .ok (.iaload, 1) := by decide +kernel
theorem dX4_known_120 : decode cX4_known 120 = .ok (.ireturn, 1) := by decide +kernel
theorem dX4_many_0 : decode cX4_many 0 = .ok (.aload_n 0, 1) := by decide +kernel
theorem dX4_many_1 : decode cX4_many 1 = .ok (.iload_n 1, 1) := by decide +kernel
theorem dX4_many_2 : decode cX4_many 2 = .ok (.invokestatic 77, 3) := by decide +kernel
theorem dX4_many_5 : decode cX4_many 5 = .ok (.ifCond .eq 13, 3) := by decide +kernel
theorem dX4_many_8 : decode cX4_many 8 = .ok (.iload_n 2, 1) := by decide +kernel
theorem dX4_many_9 : decode cX4_many 9 = .ok (.i2l, 1) := by decide +kernel
theorem dX4_many_10 : decode cX4_many 10 = .ok (.iconst 0, 1) := by decide +kernel
theorem dX4_many_11 : decode cX4_many 11 = .ok (.iconst 2, 1) := by decide +kernel
theorem dX4_many_12 : decode cX4_many 12 = .ok (.invokestatic 57, 3) := by decide +kernel
theorem dX4_many_15 : decode cX4_many 15 = .ok (.ifCond .ne 7, 3) := by decide +kernel
theorem dX4_many_18 : decode cX4_many 18 = .ok (.iconst 1, 1) := by decide +kernel
theorem dX4_many_19 : decode cX4_many 19 = .ok (.goto 4, 3) := by decide +kernel
theorem dX4_many_22 : decode cX4_many 22 = .ok (.iconst 0, 1) := by decide +kernel
theorem dX4_many_23 : decode cX4_many 23 = .ok (.iconst 0, 1) := by decide +kernel
theorem dX4_many_24 : decode cX4_many 24 = .ok (.iconst 0, 1) := by decide +kernel
theorem dX4_many_25 : decode cX4_many 25 = .ok (.iconst 0, 1) := by decide +kernel
theorem dX4_many_26 : decode cX4_many 26 = .ok (.invokevirtual 66, 3) := by decide +kernel
theorem dX4_many_29 : decode cX4_many 29 = .ok (.ifCond .eq 5, 3) := by decide +kernel
theorem dX4_many_32 : decode cX4_many 32 = .ok (.iconst 0, 1) := by decide +kernel
theorem dX4_many_33 : decode cX4_many 33 = .ok (.ireturn, 1) := by decide +kernel
theorem dX4_many_34 : decode cX4_many 34 = .ok (.iload_n 2, 1) := by decide +kernel
theorem dX4_many_35 : decode cX4_many 35 = .ok (.iconst 1, 1) := by decide +kernel
theorem dX4_many_36 : decode cX4_many 36 = .ok (.if_icmp .ne 10, 3) := by decide +kernel
theorem dX4_many_39 : decode cX4_many 39 = .ok (.aload_n 0, 1) := by decide +kernel
theorem dX4_many_40 : decode cX4_many 40 = .ok (.getfield 47, 3) := by decide +kernel
theorem dX4_many_43 : decode cX4_many 43 = .ok (.iload_n 1, 1) := by decide +kernel
theorem dX4_many_44 : decode cX4_many 44 = .ok (.iaload, 1) := by decide +kernel
theorem dX4_many_45 : decode cX4_many 45 = .ok (.ireturn, 1) := by decide +kernel
theorem dX4_many_46 : decode cX4_many 46 = .ok (.iconst 0, 1) := by decide +kernel
theorem dX4_many_47 : decode cX4_many 47 = .ok (.istore_n 3, 1) := by decide +kernel
theorem dX4_many_48 : decode cX4_many 48 = .ok (.iconst 0, 1) := by decide +kernel
theorem dX4_many_49 : decode cX4_many 49 = .ok (.istore 4, 2) := by decide +kernel
theorem dX4_many_51 : decode cX4_many 51 = .ok (.iload 4, 2) := by decide +kernel
theorem dX4_many_53 : decode cX4_many 53 = .ok (.aload_n 0, 1) := by decide +kernel
theorem dX4_many_54 : decode cX4_many 54 = .ok (.getfield 74, 3) := by decide +kernel
theorem dX4_many_57 : decode cX4_many 57 = .ok (.if_icmp .ge 59, 3) := by decide +kernel
theorem dX4_many_60 : decode cX4_many 60 = .ok (.iload_n 3, 1) := by decide +kernel
theorem dX4_many_61 : decode cX4_many 61 = .ok (.iload_n 2, 1) := by decide +kernel
theorem dX4_many_62 : decode cX4_many 62 = .ok (.ifCond .ne 26, 3) := by decide +kernel
theorem dX4_many_65 : decode cX4_many 65 = .ok (.aload_n 0, 1) := by decide +kernel
theorem dX4_many_66 : decode cX4_many 66 = .ok (.getfield 44, 3) := by decide +kernel
theorem dX4_many_69 : decode cX4_many 69 = .ok (.bipush 120, 2) := by decide +kernel
theorem dX4_many_71 : decode cX4_many 71 = .ok (.iload_n 1, 1) := by decide +kernel
theorem dX4_many_72 : decode cX4_many 72 = .ok (.imul, 1) := by decide +kernel
theorem dX4_many_73 : decode cX4_many 73 = .ok (.iload 4, 2) := by decide +kernel
theorem dX4_many_75 : decode cX4_many 75 = .ok (.iadd, 1) := by decide +kernel
theorem dX4_many_76 : decode cX4_many 76 = .ok (.iaload, 1) := by decide +kernel
theorem dX4_many_77 : decode cX4_many 77 = .ok (.ifCond .le 7, 3) := by decide +kernel
theorem dX4_many_80 : decode cX4_many 80 = .ok (.iconst 1, 1) := by decide +kernel
theorem dX4_many_81 : decode cX4_many 81 = .ok (.goto 27, 3) := by decide +kernel
theorem dX4_many_84 : decode cX4_many 84 = .ok (.iconst 0, 1) := by decide +kernel
theorem dX4_many_85 : decode cX4_many 85 = .ok (.goto 23, 3) := by decide +kernel
theorem dX4_many_88 : decode cX4_many 88 = .ok (.aload_n 0, 1) := by decide +kernel
theorem dX4_many_89 : decode cX4_many 89 = .ok (.getfield 44, 3) := by decide +kernel
theorem dX4_many_92 : decode cX4_many 92 = .ok (.bipush 120, 2) := by decide +kernel
theorem dX4_many_94 : decode cX4_many 94 = .ok (.iload_n 1, 1) := by decide +kernel
theorem dX4_many_95 : decode cX4_many 95 = .ok (.imul, 1) := by decide +kernel
theorem dX4_many_96 : decode cX4_many 96 = .ok (.iload 4, 2) := by decide +kernel
theorem dX4_many_98 : decode cX4_many 98 = .ok (.iadd, 1) := by decide +kernel
theorem dX4_many_99 : decode cX4_many 99 = .ok (.iaload, 1) := by decide +kernel
theorem dX4_many_100 : decode cX4_many 100 = .ok (.ifCond .ge 7, 3) := by decide +kernel
theorem dX4_many_103 : decode cX4_many 103 = .ok (.iconst 1, 1) := by decide +kernel
theorem dX4_many_104 : decode cX4_many 104 = .ok (.goto 4, 3) := by decide +kernel
theorem dX4_many_107 : decode cX4_many 107 = .ok (.iconst 0, 1) := by decide +kernel
theorem dX4_many_108 : decode cX4_many 108 = .ok (.iadd, 1) := by decide +kernel
theorem dX4_many_109 : decode cX4_many 109 = .ok (.istore_n 3, 1) := by decide +kernel
theorem dX4_many_110 : decode cX4_many 110 = .ok (.iinc 4 1, 3) := by decide +kernel
theorem dX4_many_113 : decode cX4_many 113 = .ok (.goto (-62), 3) := by decide +kernel
theorem dX4_many_116 : decode cX4_many 116 = .ok (.iload_n 3, 1) := by decide +kernel
theorem dX4_many_117 : decode cX4_many 117 = .ok (.ireturn, 1) := by decide +kernel
theorem dX4_gap_0 : decode cX4_gap 0 = .ok (.aload_n 0, 1) := by decide +kernel
theorem dX4_gap_1 : decode cX4_gap 1 = .ok (.iload_n 1, 1) := by decide +kernel
theorem dX4_gap_2 : decode cX4_gap 2 = .ok (.invokestatic 77, 3) := by decide +kernel
theorem dX4_gap_5 : decode cX4_gap 5 = .ok (.ifCond .eq 14, 3) := by decide +kernel
theorem dX4_gap_8 : decode cX4_gap 8 = .ok (.iload_n 2, 1) := by decide +kernel
theorem dX4_gap_9 : decode cX4_gap 9 = .ok (.invokestatic 61, 3) := by decide +kernel
theorem dX4_gap_12 : decode cX4_gap 12 = .ok (.ifCond .eq 7, 3) := by decide +kernel
theorem dX4_gap_15 : decode cX4_gap 15 = .ok (.iload_n 3, 1) := by decide +kernel
theorem dX4_gap_16 : decode cX4_gap 16 = .ok (.ifCond .ge 7, 3) := by decide +kernel
theorem dX4_gap_19 : decode cX4_gap 19 = .ok (.iconst 1, 1) := by decide +kernel
theorem dX4_gap_20 : decode cX4_gap 20 = .ok (.goto 4, 3) := by decide +kernel
theorem dX4_gap_23 : decode cX4_gap 23 = .ok (.iconst 0, 1) := by decide +kernel
theorem dX4_gap_24 : decode cX4_gap 24 = .ok (.iconst 0, 1) := by decide +kernel
theorem dX4_gap_25 : decode cX4_gap 25 = .ok (.iconst 0, 1) := by decide +kernel
theorem dX4_gap_26 : decode cX4_gap 26 = .ok (.iconst 0, 1) := by decide +kernel
theorem dX4_gap_27 : decode cX4_gap 27 = .ok (.invokevirtual 66, 3) := by decide +kernel
theorem dX4_gap_30 : decode cX4_gap 30 = .ok (.ifCond .eq 5, 3) := by decide +kernel
theorem dX4_gap_33 : decode cX4_gap 33 = .ok (.iconst 0, 1) := by decide +kernel
theorem dX4_gap_34 : decode cX4_gap 34 = .ok (.ireturn, 1) := by decide +kernel
theorem dX4_gap_35 : decode cX4_gap 35 = .ok (.bipush 99, 2) := by decide +kernel
theorem dX4_gap_37 : decode cX4_gap 37 = .ok (.istore 4, 2) := by decide +kernel
theorem dX4_gap_39 : decode cX4_gap 39 = .ok (.iload 4, 2) := by decide +kernel
theorem dX4_gap_41 : decode cX4_gap 41 = .ok (.ifCond .lt 20, 3) := by decide +kernel
theorem dX4_gap_44 : decode cX4_gap 44 = .ok (.aload_n 0, 1) := by decide +kernel
theorem dX4_gap_45 : decode cX4_gap 45 = .ok (.iload_n 1, 1) := by decide +kernel
theorem dX4_gap_46 : decode cX4_gap 46 = .ok (.iload_n 2, 1) := by decide +kernel
theorem dX4_gap_47 : decode cX4_gap 47 = .ok (.iload 4, 2) := by decide +kernel
theorem dX4_gap_49 : decode cX4_gap 49 = .ok (.invokevirtual 115, 3) := by decide +kernel
theorem dX4_gap_52 : decode cX4_gap 52 = .ok (.ifCond .ne 9, 3) := by decide +kernel
theorem dX4_gap_55 : decode cX4_gap 55 = .ok (.iinc 4 (-1), 3) := by decide +kernel
theorem dX4_gap_58 : decode cX4_gap 58 = .ok (.goto (-19), 3) := by decide +kernel
theorem dX4_gap_61 : decode cX4_gap 61 = .ok (.iconst 0, 1) := by decide +kernel
theorem dX4_gap_62 : decode cX4_gap 62 = .ok (.istore 5, 2) := by decide +kernel
theorem dX4_gap_64 : decode cX4_gap 64 = .ok (.iconst 0, 1) := by decide +kernel
theorem dX4_gap_65 : decode cX4_gap 65 = .ok (.istore 6, 2) := by decide +kernel
theorem dX4_gap_67 : decode cX4_gap 67 = .ok (.iload 6, 2) := by decide +kernel
theorem dX4_gap_69 : decode cX4_gap 69 = .ok (.iload 4, 2) := by decide +kernel
theorem dX4_gap_71 : decode cX4_gap 71 = .ok (.if_icmp .ge 67, 3) := by decide +kernel
theorem dX4_gap_74 : decode cX4_gap 74 = .ok (.iload 6, 2) := by decide +kernel
theorem dX4_gap_76 : decode cX4_gap 76 = .ok (.istore 7, 2) := by decide +kernel
theorem dX4_gap_78 : decode cX4_gap 78 = .ok (.iload 7, 2) := by decide +kernel
theorem dX4_gap_80 : decode cX4_gap 80 = .ok (.iload 4, 2) := by decide +kernel
theorem dX4_gap_82 : decode cX4_gap 82 = .ok (.if_icmp .ge 20, 3) := by decide +kernel
theorem dX4_gap_85 : decode cX4_gap 85 = .ok (.aload_n 0, 1) := by decide +kernel
theorem dX4_gap_86 : decode cX4_gap 86 = .ok (.iload_n 1, 1) := by decide +kernel
theorem dX4_gap_87 : decode cX4_gap 87 = .ok (.iload_n 2, 1) := by decide +kernel
theorem dX4_gap_88 : decode cX4_gap 88 = .ok (.iload 7, 2) := by decide +kernel
theorem dX4_gap_90 : decode cX4_gap 90 = .ok (.invokevirtual 115, 3) := by decide +kernel
theorem dX4_gap_93 : decode cX4_gap 93 = .ok (.ifCond .ne 9, 3) := by decide +kernel
theorem dX4_gap_96 : decode cX4_gap 96 = .ok (.iinc 7 1, 3) := by decide +kernel
theorem dX4_gap_99 : decode cX4_gap 99 = .ok (.goto (-21), 3) := by decide +kernel
theorem dX4_gap_102 : decode cX4_gap 102 = .ok (.iload 7, 2) := by decide +kernel
theorem dX4_gap_104 : decode cX4_gap 104 = .ok (.iload 6, 2) := by decide +kernel
theorem dX4_gap_106 : decode cX4_gap 106 = .ok (.if_icmp .le 23, 3) := by decide +kernel
theorem dX4_gap_109 : decode cX4_gap 109 = .ok (.iload 5, 2) := by decide +kernel
theorem dX4_gap_111 : decode cX4_gap 111 = .ok (.iload_n 3, 1) := by decide +kernel
theorem dX4_gap_112 : decode cX4_gap 112 = .ok (.if_icmp .ne 14, 3) := by decide +kernel
theorem dX4_gap_115 : decode cX4_gap 115 = .ok (.bipush 100, 2) := by decide +kernel
theorem dX4_gap_117 : decode cX4_gap 117 = .ok (.iload 6, 2) := by decide +kernel
theorem dX4_gap_119 : decode cX4_gap 119 = .ok (.imul, 1) := by decide +kernel
theorem dX4_gap_120 : decode cX4_gap 120 = .ok (.iload 7, 2) := by decide +kernel
theorem dX4_gap_122 : decode cX4_gap 122 = .ok (.iadd, 1) := by decide +kernel
theorem dX4_gap_123 : decode cX4_gap 123 = .ok (.iconst 1, 1) := by decide +kernel
theorem dX4_gap_124 : decode cX4_gap 124 = .ok (.isub, 1) := by decide +kernel
theorem dX4_gap_125 : decode cX4_gap 125 = .ok (.ireturn, 1) := by decide +kernel
theorem dX4_gap_126 : decode cX4_gap 126 = .ok (.iinc 5 1, 3) := by decide +kernel
theorem dX4_gap_129 : decode cX4_gap 129 = .ok (.iload 7, 2) := by decide +kernel
theorem dX4_gap_131 : decode cX4_gap 131 = .ok (.iconst 1, 1) := by decide +kernel
theorem dX4_gap_132 : decode cX4_gap 132 = .ok (.iadd, 1) := by decide +kernel
theorem dX4_gap_133 : decode cX4_gap 133 = .ok (.istore 6, 2) := by decide +kernel
theorem dX4_gap_135 : decode cX4_gap 135 = .ok (.goto (-68), 3) := by decide +kernel
theorem dX4_gap_138 : decode cX4_gap 138 = .ok (.iconst (-1), 1) := by decide +kernel
theorem dX4_gap_139 : decode cX4_gap 139 = .ok (.ireturn, 1) := by decide +kernel
theorem dX4_hasNumber_0 : decode cX4_hasNumber 0 = .ok (.iconst 0, 1) := by decide +kernel
theorem dX4_hasNumber_1 : decode cX4_hasNumber 1 = .ok (.istore 4, 2) := by decide +kernel
theorem dX4_hasNumber_3 : decode cX4_hasNumber 3 = .ok (.iconst 0, 1) := by decide +kernel
theorem dX4_hasNumber_4 : decode cX4_hasNumber 4 = .ok (.istore 5, 2) := by decide +kernel
theorem dX4_hasNumber_6 : decode cX4_hasNumber 6 = .ok (.iload 5, 2) := by decide +kernel
theorem dX4_hasNumber_8 : decode cX4_hasNumber 8 = .ok (.aload_n 0, 1) := by decide +kernel
theorem dX4_hasNumber_9 : decode cX4_hasNumber 9 = .ok (.getfield 74, 3) := by decide +kernel
theorem dX4_hasNumber_12 : decode cX4_hasNumber 12 = .ok (.if_icmp .ge 74, 3) := by decide +kernel
theorem dX4_hasNumber_15 : decode cX4_hasNumber 15 = .ok (.iload 4, 2) := by decide +kernel
theorem dX4_hasNumber_17 : decode cX4_hasNumber 17 = .ok (.ifCond .ne 56, 3) := by decide +kernel
theorem dX4_hasNumber_20 : decode cX4_hasNumber 20 = .ok (.aload_n 0, 1) := by decide +kernel
theorem dX4_hasNumber_21 : decode cX4_hasNumber 21 = .ok (.getfield 22, 3) := by decide +kernel
theorem dX4_hasNumber_24 : decode cX4_hasNumber 24 = .ok (.iload 5, 2) := by decide +kernel
theorem dX4_hasNumber_26 : decode cX4_hasNumber 26 = .ok (.iaload, 1) := by decide +kernel
theorem dX4_hasNumber_27 : decode cX4_hasNumber 27 = .ok (.iload_n 2, 1) := by decide +kernel
theorem dX4_hasNumber_28 : decode cX4_hasNumber 28 = .ok (.if_icmp .ne 49, 3) := by decide +kernel
theorem dX4_hasNumber_31 : decode cX4_hasNumber 31 = .ok (.aload_n 0, 1) := by decide +kernel
theorem dX4_hasNumber_32 : decode cX4_hasNumber 32 = .ok (.getfield 25, 3) := by decide +kernel
theorem dX4_hasNumber_35 : decode cX4_hasNumber 35 = .ok (.iload 5, 2) := by decide +kernel
theorem dX4_hasNumber_37 : decode cX4_hasNumber 37 = .ok (.iaload, 1) := by decide +kernel
theorem dX4_hasNumber_38 : decode cX4_hasNumber 38 = .ok (.aload_n 0, 1) := by decide +kernel
theorem dX4_hasNumber_39 : decode cX4_hasNumber 39 = .ok (.getfield 7, 3) := by decide +kernel
theorem dX4_hasNumber_42 : decode cX4_hasNumber 42 = .ok (.iload_n 2, 1) := by decide +kernel
theorem dX4_hasNumber_43 : decode cX4_hasNumber 43 = .ok (.iaload, 1) := by decide +kernel
theorem dX4_hasNumber_44 : decode cX4_hasNumber 44 = .ok (.if_icmp .ne 33, 3) := by decide +kernel
theorem dX4_hasNumber_47 : decode cX4_hasNumber 47 = .ok (.aload_n 0, 1) := by decide +kernel
theorem dX4_hasNumber_48 : decode cX4_hasNumber 48 = .ok (.getfield 28, 3) := by decide +kernel
theorem dX4_hasNumber_51 : decode cX4_hasNumber 51 = .ok (.iload 5, 2) := by decide +kernel
theorem dX4_hasNumber_53 : decode cX4_hasNumber 53 = .ok (.iaload, 1) := by decide +kernel
theorem dX4_hasNumber_54 : decode cX4_hasNumber 54 = .ok (.iload_n 3, 1) := by decide +kernel
theorem dX4_hasNumber_55 : decode cX4_hasNumber 55 = .ok (.if_icmp .ne 22, 3) := by decide +kernel
theorem dX4_hasNumber_58 : decode cX4_hasNumber 58 = .ok (.aload_n 0, 1) := by decide +kernel
theorem dX4_hasNumber_59 : decode cX4_hasNumber 59 = .ok (.getfield 44, 3) := by decide +kernel
theorem dX4_hasNumber_62 : decode cX4_hasNumber 62 = .ok (.bipush 120, 2) := by decide +kernel
theorem dX4_hasNumber_64 : decode cX4_hasNumber 64 = .ok (.iload_n 1, 1) := by decide +kernel
theorem dX4_hasNumber_65 : decode cX4_hasNumber 65 = .ok (.imul, 1) := by decide +kernel
theorem dX4_hasNumber_66 : decode cX4_hasNumber 66 = .ok (.iload 5, 2) := by decide +kernel
theorem dX4_hasNumber_68 : decode cX4_hasNumber 68 = .ok (.iadd, 1) := by decide +kernel
theorem dX4_hasNumber_69 : decode cX4_hasNumber 69 = .ok (.iaload, 1) := by decide +kernel
theorem dX4_hasNumber_70 : decode cX4_hasNumber 70 = .ok (.ifCond .le 7, 3) := by decide +kernel
theorem dX4_hasNumber_73 : decode cX4_hasNumber 73 = .ok (.iconst 1, 1) := by decide +kernel
theorem dX4_hasNumber_74 : decode cX4_hasNumber 74 = .ok (.goto 4, 3) := by decide +kernel
theorem dX4_hasNumber_77 : decode cX4_hasNumber 77 = .ok (.iconst 0, 1) := by decide +kernel
theorem dX4_hasNumber_78 : decode cX4_hasNumber 78 = .ok (.istore 4, 2) := by decide +kernel
theorem dX4_hasNumber_80 : decode cX4_hasNumber 80 = .ok (.iinc 5 1, 3) := by decide +kernel
theorem dX4_hasNumber_83 : decode cX4_hasNumber 83 = .ok (.goto (-77), 3) := by decide +kernel
theorem dX4_hasNumber_86 : decode cX4_hasNumber 86 = .ok (.iload 4, 2) := by decide +kernel
theorem dX4_hasNumber_88 : decode cX4_hasNumber 88 = .ok (.ireturn, 1) := by decide +kernel
end
section
theorem dL_mark_0 : decode cL_mark 0 = .ok (.aload 4, 2) := by decide +kernel
theorem dL_mark_2 : decode cL_mark 2 = .ok (.iconst 0, 1) := by decide +kernel
theorem dL_mark_3 : decode cL_mark 3 = .ok (.aload_n 0, 1) := by decide +kernel
theorem dL_mark_4 : decode cL_mark 4 = .ok (.iload_n 1, 1) := by decide +kernel
theorem dL_mark_5 : decode cL_mark 5 = .ok (.iload_n 2, 1) := by decide +kernel
theorem dL_mark_6 : decode cL_mark 6 = .ok (.iload_n 3, 1) := by decide +kernel
theorem dL_mark_7 : decode cL_mark 7 = .ok (.invokevirtual 7, 3) := by decide +kernel
theorem dL_mark_10 : decode cL_mark 10 = .ok (.i2l, 1) := by decide +kernel
theorem dL_mark_11 : decode cL_mark 11 = .ok (.lastore, 1) := by decide +kernel
theorem dL_mark_12 : decode cL_mark 12 = .ok (.goto 15, 3) := by decide +kernel
theorem dL_mark_15 : decode cL_mark 15 = .ok (.astore 5, 2) := by decide +kernel
theorem dL_mark_17 : decode cL_mark 17 = .ok (.iconst 1, 1) := by decide +kernel
theorem dL_mark_18 : decode cL_mark 18 = .ok (.ireturn, 1) := by decide +kernel
theorem dL_mark_19 : decode cL_mark 19 = .ok (.astore 5, 2) := by decide +kernel
theorem dL_mark_21 : decode cL_mark 21 = .ok (.iconst 2, 1) := by decide +kernel
theorem dL_mark_22 : decode cL_mark 22 = .ok (.ireturn, 1) := by decide +kernel
theorem dL_mark_23 : decode cL_mark 23 = .ok (.astore 5, 2) := by decide +kernel
theorem dL_mark_25 : decode cL_mark 25 = .ok (.iconst 3, 1) := by decide +kernel
theorem dL_mark_26 : decode cL_mark 26 = .ok (.ireturn, 1) := by decide +kernel
theorem dL_mark_27 : decode cL_mark 27 = .ok (.iconst 0, 1) := by decide +kernel
theorem dL_mark_28 : decode cL_mark 28 = .ok (.ireturn, 1) := by decide +kernel
theorem dL_real_0 : decode cL_real 0 = .ok (.aload_n 3, 1) := by decide +kernel
theorem dL_real_1 : decode cL_real 1 = .ok (.iconst 0, 1) := by decide +kernel
theorem dL_real_2 : decode cL_real 2 = .ok (.aload_n 0, 1) := by decide +kernel
theorem dL_real_3 : decode cL_real 3 = .ok (.iload_n 1, 1) := by decide +kernel
theorem dL_real_4 : decode cL_real 4 = .ok (.iload_n 2, 1) := by decide +kernel
theorem dL_real_5 : decode cL_real 5 = .ok (.invokevirtual 19, 3) := by decide +kernel
theorem dL_real_8 : decode cL_real 8 = .ok (.i2l, 1) := by decide +kernel
theorem dL_real_9 : decode cL_real 9 = .ok (.lastore, 1) := by decide +kernel
theorem dL_real_10 : decode cL_real 10 = .ok (.goto 11, 3) := by decide +kernel
theorem dL_real_13 : decode cL_real 13 = .ok (.astore 4, 2) := by decide +kernel
theorem dL_real_15 : decode cL_real 15 = .ok (.iconst 1, 1) := by decide +kernel
theorem dL_real_16 : decode cL_real 16 = .ok (.ireturn, 1) := by decide +kernel
theorem dL_real_17 : decode cL_real 17 = .ok (.astore 4, 2) := by decide +kernel
theorem dL_real_19 : decode cL_real 19 = .ok (.iconst 2, 1) := by decide +kernel
theorem dL_real_20 : decode cL_real 20 = .ok (.ireturn, 1) := by decide +kernel
theorem dL_real_21 : decode cL_real 21 = .ok (.iconst 0, 1) := by decide +kernel
theorem dL_real_22 : decode cL_real 22 = .ok (.ireturn, 1) := by decide +kernel
theorem dL_tell_0 : decode cL_tell 0 = .ok (.aload 6, 2) := by decide +kernel
theorem dL_tell_2 : decode cL_tell 2 = .ok (.iconst 0, 1) := by decide +kernel
theorem dL_tell_3 : decode cL_tell 3 = .ok (.aload_n 0, 1) := by decide +kernel
theorem dL_tell_4 : decode cL_tell 4 = .ok (.iload_n 1, 1) := by decide +kernel
theorem dL_tell_5 : decode cL_tell 5 = .ok (.iload_n 2, 1) := by decide +kernel
theorem dL_tell_6 : decode cL_tell 6 = .ok (.lload_n 3, 1) := by decide +kernel
theorem dL_tell_7 : decode cL_tell 7 = .ok (.iload 5, 2) := by decide +kernel
theorem dL_tell_9 : decode cL_tell 9 = .ok (.invokevirtual 23, 3) := by decide +kernel
theorem dL_tell_12 : decode cL_tell 12 = .ok (.i2l, 1) := by decide +kernel
theorem dL_tell_13 : decode cL_tell 13 = .ok (.lastore, 1) := by decide +kernel
theorem dL_tell_14 : decode cL_tell 14 = .ok (.goto 15, 3) := by decide +kernel
theorem dL_tell_17 : decode cL_tell 17 = .ok (.astore 7, 2) := by decide +kernel
theorem dL_tell_19 : decode cL_tell 19 = .ok (.iconst 1, 1) := by decide +kernel
theorem dL_tell_20 : decode cL_tell 20 = .ok (.ireturn, 1) := by decide +kernel
theorem dL_tell_21 : decode cL_tell 21 = .ok (.astore 7, 2) := by decide +kernel
theorem dL_tell_23 : decode cL_tell 23 = .ok (.iconst 2, 1) := by decide +kernel
theorem dL_tell_24 : decode cL_tell 24 = .ok (.ireturn, 1) := by decide +kernel
theorem dL_tell_25 : decode cL_tell 25 = .ok (.astore 7, 2) := by decide +kernel
theorem dL_tell_27 : decode cL_tell 27 = .ok (.iconst 3, 1) := by decide +kernel
theorem dL_tell_28 : decode cL_tell 28 = .ok (.ireturn, 1) := by decide +kernel
theorem dL_tell_29 : decode cL_tell 29 = .ok (.iconst 0, 1) := by decide +kernel
theorem dL_tell_30 : decode cL_tell 30 = .ok (.ireturn, 1) := by decide +kernel
theorem dL_restart_0 : decode cL_restart 0 = .ok (.aload_n 2, 1) := by decide +kernel
theorem dL_restart_1 : decode cL_restart 1 = .ok (.iconst 0, 1) := by decide +kernel
theorem dL_restart_2 : decode cL_restart 2 = .ok (.aload_n 0, 1) := by decide +kernel
theorem dL_restart_3 : decode cL_restart 3 = .ok (.iload_n 1, 1) := by decide +kernel
theorem dL_restart_4 : decode cL_restart 4 = .ok (.invokevirtual 29, 3) := by decide +kernel
theorem dL_restart_7 : decode cL_restart 7 = .ok (.i2l, 1) := by decide +kernel
theorem dL_restart_8 : decode cL_restart 8 = .ok (.lastore, 1) := by decide +kernel
theorem dL_restart_9 : decode cL_restart 9 = .ok (.goto 9, 3) := by decide +kernel
theorem dL_restart_12 : decode cL_restart 12 = .ok (.astore_n 3, 1) := by decide +kernel
theorem dL_restart_13 : decode cL_restart 13 = .ok (.iconst 1, 1) := by decide +kernel
theorem dL_restart_14 : decode cL_restart 14 = .ok (.ireturn, 1) := by decide +kernel
theorem dL_restart_15 : decode cL_restart 15 = .ok (.astore_n 3, 1) := by decide +kernel
theorem dL_restart_16 : decode cL_restart 16 = .ok (.iconst 2, 1) := by decide +kernel
theorem dL_restart_17 : decode cL_restart 17 = .ok (.ireturn, 1) := by decide +kernel
theorem dL_restart_18 : decode cL_restart 18 = .ok (.iconst 0, 1) := by decide +kernel
theorem dL_restart_19 : decode cL_restart 19 = .ok (.ireturn, 1) := by decide +kernel
theorem dL_join_0 : decode cL_join 0 = .ok (.aload_n 3, 1) := by decide +kernel
theorem dL_join_1 : decode cL_join 1 = .ok (.iconst 0, 1) := by decide +kernel
theorem dL_join_2 : decode cL_join 2 = .ok (.aload_n 0, 1) := by decide +kernel
theorem dL_join_3 : decode cL_join 3 = .ok (.iload_n 1, 1) := by decide +kernel
theorem dL_join_4 : decode cL_join 4 = .ok (.iload_n 2, 1) := by decide +kernel
theorem dL_join_5 : decode cL_join 5 = .ok (.invokevirtual 33, 3) := by decide +kernel
theorem dL_join_8 : decode cL_join 8 = .ok (.i2l, 1) := by decide +kernel
theorem dL_join_9 : decode cL_join 9 = .ok (.lastore, 1) := by decide +kernel
theorem dL_join_10 : decode cL_join 10 = .ok (.goto 7, 3) := by decide +kernel
theorem dL_join_13 : decode cL_join 13 = .ok (.astore 4, 2) := by decide +kernel
theorem dL_join_15 : decode cL_join 15 = .ok (.iconst 1, 1) := by decide +kernel
theorem dL_join_16 : decode cL_join 16 = .ok (.ireturn, 1) := by decide +kernel
theorem dL_join_17 : decode cL_join 17 = .ok (.iconst 0, 1) := by decide +kernel
theorem dL_join_18 : decode cL_join 18 = .ok (.ireturn, 1) := by decide +kernel
theorem dL_batch_0 : decode cL_batch 0 = .ok (.aload_n 3, 1) := by decide +kernel
theorem dL_batch_1 : decode cL_batch 1 = .ok (.iconst 0, 1) := by decide +kernel
theorem dL_batch_2 : decode cL_batch 2 = .ok (.aload_n 0, 1) := by decide +kernel
theorem dL_batch_3 : decode cL_batch 3 = .ok (.iload_n 1, 1) := by decide +kernel
theorem dL_batch_4 : decode cL_batch 4 = .ok (.iload_n 2, 1) := by decide +kernel
theorem dL_batch_5 : decode cL_batch 5 = .ok (.invokevirtual 36, 3) := by decide +kernel
theorem dL_batch_8 : decode cL_batch 8 = .ok (.i2l, 1) := by decide +kernel
theorem dL_batch_9 : decode cL_batch 9 = .ok (.lastore, 1) := by decide +kernel
theorem dL_batch_10 : decode cL_batch 10 = .ok (.goto 11, 3) := by decide +kernel
theorem dL_batch_13 : decode cL_batch 13 = .ok (.astore 4, 2) := by decide +kernel
theorem dL_batch_15 : decode cL_batch 15 = .ok (.iconst 1, 1) := by decide +kernel
theorem dL_batch_16 : decode cL_batch 16 = .ok (.ireturn, 1) := by decide +kernel
theorem dL_batch_17 : decode cL_batch 17 = .ok (.astore 4, 2) := by decide +kernel
theorem dL_batch_19 : decode cL_batch 19 = .ok (.iconst 2, 1) := by decide +kernel
theorem dL_batch_20 : decode cL_batch 20 = .ok (.ireturn, 1) := by decide +kernel
theorem dL_batch_21 : decode cL_batch 21 = .ok (.iconst 0, 1) := by decide +kernel
theorem dL_batch_22 : decode cL_batch 22 = .ok (.ireturn, 1) := by decide +kernel
theorem dL_same_0 : decode cL_same 0 = .ok (.aload_n 3, 1) := by decide +kernel
theorem dL_same_1 : decode cL_same 1 = .ok (.iconst 0, 1) := by decide +kernel
theorem dL_same_2 : decode cL_same 2 = .ok (.aload_n 0, 1) := by decide +kernel
theorem dL_same_3 : decode cL_same 3 = .ok (.iload_n 1, 1) := by decide +kernel
theorem dL_same_4 : decode cL_same 4 = .ok (.iload_n 2, 1) := by decide +kernel
theorem dL_same_5 : decode cL_same 5 = .ok (.invokevirtual 40, 3) := by decide +kernel
theorem dL_same_8 : decode cL_same 8 = .ok (.ifCond .eq 7, 3) := by decide +kernel
theorem dL_same_11 : decode cL_same 11 = .ok (.lconst 1, 1) := by decide +kernel
theorem dL_same_12 : decode cL_same 12 = .ok (.goto 4, 3) := by decide +kernel
theorem dL_same_15 : decode cL_same 15 = .ok (.lconst 0, 1) := by decide +kernel
theorem dL_same_16 : decode cL_same 16 = .ok (.lastore, 1) := by decide +kernel
theorem dL_same_17 : decode cL_same 17 = .ok (.goto 7, 3) := by decide +kernel
theorem dL_same_20 : decode cL_same 20 = .ok (.astore 4, 2) := by decide +kernel
theorem dL_same_22 : decode cL_same 22 = .ok (.iconst 1, 1) := by decide +kernel
theorem dL_same_23 : decode cL_same 23 = .ok (.ireturn, 1) := by decide +kernel
theorem dL_same_24 : decode cL_same 24 = .ok (.iconst 0, 1) := by decide +kernel
theorem dL_same_25 : decode cL_same 25 = .ok (.ireturn, 1) := by decide +kernel
theorem dL_conflicts_0 : decode cL_conflicts 0 = .ok (.aload_n 2, 1) := by decide +kernel
theorem dL_conflicts_1 : decode cL_conflicts 1 = .ok (.iconst 0, 1) := by decide +kernel
theorem dL_conflicts_2 : decode cL_conflicts 2 = .ok (.aload_n 0, 1) := by decide +kernel
theorem dL_conflicts_3 : decode cL_conflicts 3 = .ok (.iload_n 1, 1) := by decide +kernel
theorem dL_conflicts_4 : decode cL_conflicts 4 = .ok (.invokevirtual 44, 3) := by decide +kernel
theorem dL_conflicts_7 : decode cL_conflicts 7 = .ok (.i2l, 1) := by decide +kernel
theorem dL_conflicts_8 : decode cL_conflicts 8 = .ok (.lastore, 1) := by decide +kernel
theorem dL_conflicts_9 : decode cL_conflicts 9 = .ok (.goto 6, 3) := by decide +kernel
theorem dL_conflicts_12 : decode cL_conflicts 12 = .ok (.astore_n 3, 1) := by decide +kernel
theorem dL_conflicts_13 : decode cL_conflicts 13 = .ok (.iconst 1, 1) := by decide +kernel
theorem dL_conflicts_14 : decode cL_conflicts 14 = .ok (.ireturn, 1) := by decide +kernel
theorem dL_conflicts_15 : decode cL_conflicts 15 = .ok (.iconst 0, 1) := by decide +kernel
theorem dL_conflicts_16 : decode cL_conflicts 16 = .ok (.ireturn, 1) := by decide +kernel
theorem dL_settle_0 : decode cL_settle 0 = .ok (.aload_n 3, 1) := by decide +kernel
theorem dL_settle_1 : decode cL_settle 1 = .ok (.iconst 0, 1) := by decide +kernel
theorem dL_settle_2 : decode cL_settle 2 = .ok (.aload_n 0, 1) := by decide +kernel
theorem dL_settle_3 : decode cL_settle 3 = .ok (.iload_n 1, 1) := by decide +kernel
theorem dL_settle_4 : decode cL_settle 4 = .ok (.iload_n 2, 1) := by decide +kernel
theorem dL_settle_5 : decode cL_settle 5 = .ok (.invokevirtual 47, 3) := by decide +kernel
theorem dL_settle_8 : decode cL_settle 8 = .ok (.i2l, 1) := by decide +kernel
theorem dL_settle_9 : decode cL_settle 9 = .ok (.lastore, 1) := by decide +kernel
theorem dL_settle_10 : decode cL_settle 10 = .ok (.goto 7, 3) := by decide +kernel
theorem dL_settle_13 : decode cL_settle 13 = .ok (.astore 4, 2) := by decide +kernel
theorem dL_settle_15 : decode cL_settle 15 = .ok (.iconst 1, 1) := by decide +kernel
theorem dL_settle_16 : decode cL_settle 16 = .ok (.ireturn, 1) := by decide +kernel
theorem dL_settle_17 : decode cL_settle 17 = .ok (.iconst 0, 1) := by decide +kernel
theorem dL_settle_18 : decode cL_settle 18 = .ok (.ireturn, 1) := by decide +kernel
theorem dL_last_0 : decode cL_last 0 = .ok (.aload 4, 2) := by decide +kernel
theorem dL_last_2 : decode cL_last 2 = .ok (.iconst 0, 1) := by decide +kernel
theorem dL_last_3 : decode cL_last 3 = .ok (.aload_n 0, 1) := by decide +kernel
theorem dL_last_4 : decode cL_last 4 = .ok (.iload_n 1, 1) := by decide +kernel
theorem dL_last_5 : decode cL_last 5 = .ok (.iload_n 2, 1) := by decide +kernel
theorem dL_last_6 : decode cL_last 6 = .ok (.iload_n 3, 1) := by decide +kernel
theorem dL_last_7 : decode cL_last 7 = .ok (.invokevirtual 50, 3) := by decide +kernel
theorem dL_last_10 : decode cL_last 10 = .ok (.i2l, 1) := by decide +kernel
theorem dL_last_11 : decode cL_last 11 = .ok (.lastore, 1) := by decide +kernel
theorem dL_last_12 : decode cL_last 12 = .ok (.goto 11, 3) := by decide +kernel
theorem dL_last_15 : decode cL_last 15 = .ok (.astore 5, 2) := by decide +kernel
theorem dL_last_17 : decode cL_last 17 = .ok (.iconst 1, 1) := by decide +kernel
theorem dL_last_18 : decode cL_last 18 = .ok (.ireturn, 1) := by decide +kernel
theorem dL_last_19 : decode cL_last 19 = .ok (.astore 5, 2) := by decide +kernel
theorem dL_last_21 : decode cL_last 21 = .ok (.iconst 2, 1) := by decide +kernel
theorem dL_last_22 : decode cL_last 22 = .ok (.ireturn, 1) := by decide +kernel
theorem dL_last_23 : decode cL_last 23 = .ok (.iconst 0, 1) := by decide +kernel
theorem dL_last_24 : decode cL_last 24 = .ok (.ireturn, 1) := by decide +kernel
theorem dL_known_0 : decode cL_known 0 = .ok (.aload 4, 2) := by decide +kernel
theorem dL_known_2 : decode cL_known 2 = .ok (.iconst 0, 1) := by decide +kernel
theorem dL_known_3 : decode cL_known 3 = .ok (.aload_n 0, 1) := by decide +kernel
theorem dL_known_4 : decode cL_known 4 = .ok (.iload_n 1, 1) := by decide +kernel
theorem dL_known_5 : decode cL_known 5 = .ok (.iload_n 2, 1) := by decide +kernel
theorem dL_known_6 : decode cL_known 6 = .ok (.iload_n 3, 1) := by decide +kernel
theorem dL_known_7 : decode cL_known 7 = .ok (.invokevirtual 53, 3) := by decide +kernel
theorem dL_known_10 : decode cL_known 10 = .ok (.i2l, 1) := by decide +kernel
theorem dL_known_11 : decode cL_known 11 = .ok (.lastore, 1) := by decide +kernel
theorem dL_known_12 : decode cL_known 12 = .ok (.goto 15, 3) := by decide +kernel
theorem dL_known_15 : decode cL_known 15 = .ok (.astore 5, 2) := by decide +kernel
theorem dL_known_17 : decode cL_known 17 = .ok (.iconst 1, 1) := by decide +kernel
theorem dL_known_18 : decode cL_known 18 = .ok (.ireturn, 1) := by decide +kernel
theorem dL_known_19 : decode cL_known 19 = .ok (.astore 5, 2) := by decide +kernel
theorem dL_known_21 : decode cL_known 21 = .ok (.iconst 2, 1) := by decide +kernel
theorem dL_known_22 : decode cL_known 22 = .ok (.ireturn, 1) := by decide +kernel
theorem dL_known_23 : decode cL_known 23 = .ok (.astore 5, 2) := by decide +kernel
theorem dL_known_25 : decode cL_known 25 = .ok (.iconst 3, 1) := by decide +kernel
theorem dL_known_26 : decode cL_known 26 = .ok (.ireturn, 1) := by decide +kernel
theorem dL_known_27 : decode cL_known 27 = .ok (.iconst 0, 1) := by decide +kernel
theorem dL_known_28 : decode cL_known 28 = .ok (.ireturn, 1) := by decide +kernel
theorem dL_many_0 : decode cL_many 0 = .ok (.aload_n 3, 1) := by decide +kernel
theorem dL_many_1 : decode cL_many 1 = .ok (.iconst 0, 1) := by decide +kernel
theorem dL_many_2 : decode cL_many 2 = .ok (.aload_n 0, 1) := by decide +kernel
theorem dL_many_3 : decode cL_many 3 = .ok (.iload_n 1, 1) := by decide +kernel
theorem dL_many_4 : decode cL_many 4 = .ok (.iload_n 2, 1) := by decide +kernel
theorem dL_many_5 : decode cL_many 5 = .ok (.invokevirtual 56, 3) := by decide +kernel
theorem dL_many_8 : decode cL_many 8 = .ok (.i2l, 1) := by decide +kernel
theorem dL_many_9 : decode cL_many 9 = .ok (.lastore, 1) := by decide +kernel
theorem dL_many_10 : decode cL_many 10 = .ok (.goto 7, 3) := by decide +kernel
theorem dL_many_13 : decode cL_many 13 = .ok (.astore 4, 2) := by decide +kernel
theorem dL_many_15 : decode cL_many 15 = .ok (.iconst 1, 1) := by decide +kernel
theorem dL_many_16 : decode cL_many 16 = .ok (.ireturn, 1) := by decide +kernel
theorem dL_many_17 : decode cL_many 17 = .ok (.iconst 0, 1) := by decide +kernel
theorem dL_many_18 : decode cL_many 18 = .ok (.ireturn, 1) := by decide +kernel
theorem dL_gap_0 : decode cL_gap 0 = .ok (.aload 4, 2) := by decide +kernel
theorem dL_gap_2 : decode cL_gap 2 = .ok (.iconst 0, 1) := by decide +kernel
theorem dL_gap_3 : decode cL_gap 3 = .ok (.aload_n 0, 1) := by decide +kernel
theorem dL_gap_4 : decode cL_gap 4 = .ok (.iload_n 1, 1) := by decide +kernel
theorem dL_gap_5 : decode cL_gap 5 = .ok (.iload_n 2, 1) := by decide +kernel
theorem dL_gap_6 : decode cL_gap 6 = .ok (.iload_n 3, 1) := by decide +kernel
theorem dL_gap_7 : decode cL_gap 7 = .ok (.invokevirtual 59, 3) := by decide +kernel
theorem dL_gap_10 : decode cL_gap 10 = .ok (.i2l, 1) := by decide +kernel
theorem dL_gap_11 : decode cL_gap 11 = .ok (.lastore, 1) := by decide +kernel
theorem dL_gap_12 : decode cL_gap 12 = .ok (.goto 7, 3) := by decide +kernel
theorem dL_gap_15 : decode cL_gap 15 = .ok (.astore 5, 2) := by decide +kernel
theorem dL_gap_17 : decode cL_gap 17 = .ok (.iconst 1, 1) := by decide +kernel
theorem dL_gap_18 : decode cL_gap 18 = .ok (.ireturn, 1) := by decide +kernel
theorem dL_gap_19 : decode cL_gap 19 = .ok (.iconst 0, 1) := by decide +kernel
theorem dL_gap_20 : decode cL_gap 20 = .ok (.ireturn, 1) := by decide +kernel
theorem dL_law_0 : decode cL_law 0 = .ok (.new 8, 3) := by decide +kernel
theorem dL_law_3 : decode cL_law 3 = .ok (.dup, 1) := by decide +kernel
theorem dL_law_4 : decode cL_law 4 = .ok (.invokespecial 62, 3) := by decide +kernel
theorem dL_law_7 : decode cL_law 7 = .ok (.astore_n 1, 1) := by decide +kernel
theorem dL_law_8 : decode cL_law 8 = .ok (.new 63, 3) := by decide +kernel
theorem dL_law_11 : decode cL_law 11 = .ok (.dup, 1) := by decide +kernel
theorem dL_law_12 : decode cL_law 12 = .ok (.invokespecial 65, 3) := by decide +kernel
theorem dL_law_15 : decode cL_law 15 = .ok (.astore_n 2, 1) := by decide +kernel
theorem dL_law_16 : decode cL_law 16 = .ok (.iconst 1, 1) := by decide +kernel
theorem dL_law_17 : decode cL_law 17 = .ok (.newarray .long, 2) := by decide +kernel
theorem dL_law_19 : decode cL_law 19 = .ok (.astore_n 3, 1) := by decide +kernel
theorem dL_law_20 : decode cL_law 20 = .ok (.iconst 0, 1) := by decide +kernel
theorem dL_law_21 : decode cL_law 21 = .ok (.istore 4, 2) := by decide +kernel
theorem dL_law_23 : decode cL_law 23 = .ok (.iload 4, 2) := by decide +kernel
theorem dL_law_25 : decode cL_law 25 = .ok (.aload_n 0, 1) := by decide +kernel
theorem dL_law_26 : decode cL_law 26 = .ok (.arraylength, 1) := by decide +kernel
theorem dL_law_27 : decode cL_law 27 = .ok (.bipush 6, 2) := by decide +kernel
theorem dL_law_29 : decode cL_law 29 = .ok (.isub, 1) := by decide +kernel
theorem dL_law_30 : decode cL_law 30 = .ok (.if_icmp .gt 1071, 3) := by decide +kernel
theorem dL_law_33 : decode cL_law 33 = .ok (.aload_n 0, 1) := by decide +kernel
theorem dL_law_34 : decode cL_law 34 = .ok (.iload 4, 2) := by decide +kernel
theorem dL_law_36 : decode cL_law 36 = .ok (.iaload, 1) := by decide +kernel
theorem dL_law_37 : decode cL_law 37 = .ok (.bipush 15, 2) := by decide +kernel
theorem dL_law_39 : decode cL_law 39 = .ok (.iand, 1) := by decide +kernel
theorem dL_law_40 : decode cL_law 40 = .ok (.tableswitch 1055 0 12 #[68, 148, 216, 340, 396, 464, 548, 623, 679, 747, 827, 907, 975], 68) := by decide +kernel
theorem dL_law_108 : decode cL_law 108 = .ok (.aload_n 1, 1) := by decide +kernel
theorem dL_law_109 : decode cL_law 109 = .ok (.aload_n 0, 1) := by decide +kernel
theorem dL_law_110 : decode cL_law 110 = .ok (.iload 4, 2) := by decide +kernel
theorem dL_law_112 : decode cL_law 112 = .ok (.iconst 1, 1) := by decide +kernel
theorem dL_law_113 : decode cL_law 113 = .ok (.iadd, 1) := by decide +kernel
theorem dL_law_114 : decode cL_law 114 = .ok (.iaload, 1) := by decide +kernel
theorem dL_law_115 : decode cL_law 115 = .ok (.aload_n 0, 1) := by decide +kernel
theorem dL_law_116 : decode cL_law 116 = .ok (.iload 4, 2) := by decide +kernel
theorem dL_law_118 : decode cL_law 118 = .ok (.iconst 2, 1) := by decide +kernel
theorem dL_law_119 : decode cL_law 119 = .ok (.iadd, 1) := by decide +kernel
theorem dL_law_120 : decode cL_law 120 = .ok (.iaload, 1) := by decide +kernel
theorem dL_law_121 : decode cL_law 121 = .ok (.aload_n 0, 1) := by decide +kernel
theorem dL_law_122 : decode cL_law 122 = .ok (.iload 4, 2) := by decide +kernel
theorem dL_law_124 : decode cL_law 124 = .ok (.iconst 3, 1) := by decide +kernel
theorem dL_law_125 : decode cL_law 125 = .ok (.iadd, 1) := by decide +kernel
theorem dL_law_126 : decode cL_law 126 = .ok (.iaload, 1) := by decide +kernel
theorem dL_law_127 : decode cL_law 127 = .ok (.aload_n 3, 1) := by decide +kernel
theorem dL_law_128 : decode cL_law 128 = .ok (.invokestatic 66, 3) := by decide +kernel
theorem dL_law_131 : decode cL_law 131 = .ok (.istore 5, 2) := by decide +kernel
theorem dL_law_133 : decode cL_law 133 = .ok (.aload_n 2, 1) := by decide +kernel
theorem dL_law_134 : decode cL_law 134 = .ok (.aload_n 0, 1) := by decide +kernel
theorem dL_law_135 : decode cL_law 135 = .ok (.iload 4, 2) := by decide +kernel
theorem dL_law_137 : decode cL_law 137 = .ok (.iconst 1, 1) := by decide +kernel
theorem dL_law_138 : decode cL_law 138 = .ok (.iadd, 1) := by decide +kernel
theorem dL_law_139 : decode cL_law 139 = .ok (.iaload, 1) := by decide +kernel
theorem dL_law_140 : decode cL_law 140 = .ok (.aload_n 0, 1) := by decide +kernel
theorem dL_law_141 : decode cL_law 141 = .ok (.iload 4, 2) := by decide +kernel
theorem dL_law_143 : decode cL_law 143 = .ok (.iconst 2, 1) := by decide +kernel
theorem dL_law_144 : decode cL_law 144 = .ok (.iadd, 1) := by decide +kernel
theorem dL_law_145 : decode cL_law 145 = .ok (.iaload, 1) := by decide +kernel
theorem dL_law_146 : decode cL_law 146 = .ok (.aload_n 0, 1) := by decide +kernel
theorem dL_law_147 : decode cL_law 147 = .ok (.iload 4, 2) := by decide +kernel
theorem dL_law_149 : decode cL_law 149 = .ok (.iconst 3, 1) := by decide +kernel
theorem dL_law_150 : decode cL_law 150 = .ok (.iadd, 1) := by decide +kernel
theorem dL_law_151 : decode cL_law 151 = .ok (.iaload, 1) := by decide +kernel
theorem dL_law_152 : decode cL_law 152 = .ok (.invokevirtual 71, 3) := by decide +kernel
theorem dL_law_155 : decode cL_law 155 = .ok (.istore 6, 2) := by decide +kernel
theorem dL_law_157 : decode cL_law 157 = .ok (.aload_n 2, 1) := by decide +kernel
theorem dL_law_158 : decode cL_law 158 = .ok (.invokevirtual 72, 3) := by decide +kernel
theorem dL_law_161 : decode cL_law 161 = .ok (.iload 5, 2) := by decide +kernel
theorem dL_law_163 : decode cL_law 163 = .ok (.if_icmp .eq 5, 3) := by decide +kernel
theorem dL_law_166 : decode cL_law 166 = .ok (.iconst 0, 1) := by decide +kernel
theorem dL_law_167 : decode cL_law 167 = .ok (.ireturn, 1) := by decide +kernel
theorem dL_law_168 : decode cL_law 168 = .ok (.iload 5, 2) := by decide +kernel
theorem dL_law_170 : decode cL_law 170 = .ok (.ifCond .ne 15, 3) := by decide +kernel
theorem dL_law_173 : decode cL_law 173 = .ok (.aload_n 3, 1) := by decide +kernel
theorem dL_law_174 : decode cL_law 174 = .ok (.iconst 0, 1) := by decide +kernel
theorem dL_law_175 : decode cL_law 175 = .ok (.laload, 1) := by decide +kernel
theorem dL_law_176 : decode cL_law 176 = .ok (.iload 6, 2) := by decide +kernel
theorem dL_law_178 : decode cL_law 178 = .ok (.i2l, 1) := by decide +kernel
theorem dL_law_179 : decode cL_law 179 = .ok (.lcmp, 1) := by decide +kernel
theorem dL_law_180 : decode cL_law 180 = .ok (.ifCond .eq 5, 3) := by decide +kernel
theorem dL_law_183 : decode cL_law 183 = .ok (.iconst 0, 1) := by decide +kernel
theorem dL_law_184 : decode cL_law 184 = .ok (.ireturn, 1) := by decide +kernel
theorem dL_law_185 : decode cL_law 185 = .ok (.goto 910, 3) := by decide +kernel
theorem dL_law_188 : decode cL_law 188 = .ok (.aload_n 1, 1) := by decide +kernel
theorem dL_law_189 : decode cL_law 189 = .ok (.aload_n 0, 1) := by decide +kernel
theorem dL_law_190 : decode cL_law 190 = .ok (.iload 4, 2) := by decide +kernel
theorem dL_law_192 : decode cL_law 192 = .ok (.iconst 1, 1) := by decide +kernel
theorem dL_law_193 : decode cL_law 193 = .ok (.iadd, 1) := by decide +kernel
theorem dL_law_194 : decode cL_law 194 = .ok (.iaload, 1) := by decide +kernel
theorem dL_law_195 : decode cL_law 195 = .ok (.aload_n 0, 1) := by decide +kernel
theorem dL_law_196 : decode cL_law 196 = .ok (.iload 4, 2) := by decide +kernel
theorem dL_law_198 : decode cL_law 198 = .ok (.iconst 2, 1) := by decide +kernel
theorem dL_law_199 : decode cL_law 199 = .ok (.iadd, 1) := by decide +kernel
theorem dL_law_200 : decode cL_law 200 = .ok (.iaload, 1) := by decide +kernel
theorem dL_law_201 : decode cL_law 201 = .ok (.aload_n 3, 1) := by decide +kernel
theorem dL_law_202 : decode cL_law 202 = .ok (.invokestatic 76, 3) := by decide +kernel
theorem dL_law_205 : decode cL_law 205 = .ok (.istore 5, 2) := by decide +kernel
theorem dL_law_207 : decode cL_law 207 = .ok (.aload_n 2, 1) := by decide +kernel
theorem dL_law_208 : decode cL_law 208 = .ok (.aload_n 0, 1) := by decide +kernel
theorem dL_law_209 : decode cL_law 209 = .ok (.iload 4, 2) := by decide +kernel
theorem dL_law_211 : decode cL_law 211 = .ok (.iconst 1, 1) := by decide +kernel
theorem dL_law_212 : decode cL_law 212 = .ok (.iadd, 1) := by decide +kernel
theorem dL_law_213 : decode cL_law 213 = .ok (.iaload, 1) := by decide +kernel
theorem dL_law_214 : decode cL_law 214 = .ok (.aload_n 0, 1) := by decide +kernel
theorem dL_law_215 : decode cL_law 215 = .ok (.iload 4, 2) := by decide +kernel
theorem dL_law_217 : decode cL_law 217 = .ok (.iconst 2, 1) := by decide +kernel
theorem dL_law_218 : decode cL_law 218 = .ok (.iadd, 1) := by decide +kernel
theorem dL_law_219 : decode cL_law 219 = .ok (.iaload, 1) := by decide +kernel
theorem dL_law_220 : decode cL_law 220 = .ok (.invokevirtual 79, 3) := by decide +kernel
theorem dL_law_223 : decode cL_law 223 = .ok (.istore 6, 2) := by decide +kernel
theorem dL_law_225 : decode cL_law 225 = .ok (.aload_n 2, 1) := by decide +kernel
theorem dL_law_226 : decode cL_law 226 = .ok (.invokevirtual 72, 3) := by decide +kernel
theorem dL_law_229 : decode cL_law 229 = .ok (.iload 5, 2) := by decide +kernel
theorem dL_law_231 : decode cL_law 231 = .ok (.if_icmp .eq 5, 3) := by decide +kernel
theorem dL_law_234 : decode cL_law 234 = .ok (.iconst 0, 1) := by decide +kernel
theorem dL_law_235 : decode cL_law 235 = .ok (.ireturn, 1) := by decide +kernel
theorem dL_law_236 : decode cL_law 236 = .ok (.iload 5, 2) := by decide +kernel
theorem dL_law_238 : decode cL_law 238 = .ok (.ifCond .ne 15, 3) := by decide +kernel
theorem dL_law_241 : decode cL_law 241 = .ok (.aload_n 3, 1) := by decide +kernel
theorem dL_law_242 : decode cL_law 242 = .ok (.iconst 0, 1) := by decide +kernel
theorem dL_law_243 : decode cL_law 243 = .ok (.laload, 1) := by decide +kernel
theorem dL_law_244 : decode cL_law 244 = .ok (.iload 6, 2) := by decide +kernel
theorem dL_law_246 : decode cL_law 246 = .ok (.i2l, 1) := by decide +kernel
theorem dL_law_247 : decode cL_law 247 = .ok (.lcmp, 1) := by decide +kernel
theorem dL_law_248 : decode cL_law 248 = .ok (.ifCond .eq 5, 3) := by decide +kernel
theorem dL_law_251 : decode cL_law 251 = .ok (.iconst 0, 1) := by decide +kernel
theorem dL_law_252 : decode cL_law 252 = .ok (.ireturn, 1) := by decide +kernel
theorem dL_law_253 : decode cL_law 253 = .ok (.goto 842, 3) := by decide +kernel
theorem dL_law_256 : decode cL_law 256 = .ok (.aload_n 1, 1) := by decide +kernel
theorem dL_law_257 : decode cL_law 257 = .ok (.aload_n 0, 1) := by decide +kernel
theorem dL_law_258 : decode cL_law 258 = .ok (.iload 4, 2) := by decide +kernel
theorem dL_law_260 : decode cL_law 260 = .ok (.iconst 1, 1) := by decide +kernel
theorem dL_law_261 : decode cL_law 261 = .ok (.iadd, 1) := by decide +kernel
theorem dL_law_262 : decode cL_law 262 = .ok (.iaload, 1) := by decide +kernel
theorem dL_law_263 : decode cL_law 263 = .ok (.aload_n 0, 1) := by decide +kernel
theorem dL_law_264 : decode cL_law 264 = .ok (.iload 4, 2) := by decide +kernel
theorem dL_law_266 : decode cL_law 266 = .ok (.iconst 2, 1) := by decide +kernel
theorem dL_law_267 : decode cL_law 267 = .ok (.iadd, 1) := by decide +kernel
theorem dL_law_268 : decode cL_law 268 = .ok (.iaload, 1) := by decide +kernel
theorem dL_law_269 : decode cL_law 269 = .ok (.aload_n 0, 1) := by decide +kernel
theorem dL_law_270 : decode cL_law 270 = .ok (.iload 4, 2) := by decide +kernel
theorem dL_law_272 : decode cL_law 272 = .ok (.iconst 3, 1) := by decide +kernel
theorem dL_law_273 : decode cL_law 273 = .ok (.iadd, 1) := by decide +kernel
theorem dL_law_274 : decode cL_law 274 = .ok (.iaload, 1) := by decide +kernel
theorem dL_law_275 : decode cL_law 275 = .ok (.i2l, 1) := by decide +kernel
theorem dL_law_276 : decode cL_law 276 = .ok (.bipush 32, 2) := by decide +kernel
theorem dL_law_278 : decode cL_law 278 = .ok (.lshl, 1) := by decide +kernel
theorem dL_law_279 : decode cL_law 279 = .ok (.aload_n 0, 1) := by decide +kernel
theorem dL_law_280 : decode cL_law 280 = .ok (.iload 4, 2) := by decide +kernel
theorem dL_law_282 : decode cL_law 282 = .ok (.iconst 4, 1) := by decide +kernel
theorem dL_law_283 : decode cL_law 283 = .ok (.iadd, 1) := by decide +kernel
theorem dL_law_284 : decode cL_law 284 = .ok (.iaload, 1) := by decide +kernel
theorem dL_law_285 : decode cL_law 285 = .ok (.i2l, 1) := by decide +kernel
theorem dL_law_286 : decode cL_law 286 = .ok (.ldc2_w 80, 3) := by decide +kernel
theorem dL_law_289 : decode cL_law 289 = .ok (.land, 1) := by decide +kernel
theorem dL_law_290 : decode cL_law 290 = .ok (.lor, 1) := by decide +kernel
theorem dL_law_291 : decode cL_law 291 = .ok (.aload_n 0, 1) := by decide +kernel
theorem dL_law_292 : decode cL_law 292 = .ok (.iload 4, 2) := by decide +kernel
theorem dL_law_294 : decode cL_law 294 = .ok (.iconst 5, 1) := by decide +kernel
theorem dL_law_295 : decode cL_law 295 = .ok (.iadd, 1) := by decide +kernel
theorem dL_law_296 : decode cL_law 296 = .ok (.iaload, 1) := by decide +kernel
theorem dL_law_297 : decode cL_law 297 = .ok (.aload_n 3, 1) := by decide +kernel
theorem dL_law_298 : decode cL_law 298 = .ok (.invokestatic 82, 3) := by decide +kernel
theorem dL_law_301 : decode cL_law 301 = .ok (.istore 5, 2) := by decide +kernel
theorem dL_law_303 : decode cL_law 303 = .ok (.aload_n 2, 1) := by decide +kernel
theorem dL_law_304 : decode cL_law 304 = .ok (.aload_n 0, 1) := by decide +kernel
theorem dL_law_305 : decode cL_law 305 = .ok (.iload 4, 2) := by decide +kernel
theorem dL_law_307 : decode cL_law 307 = .ok (.iconst 1, 1) := by decide +kernel
theorem dL_law_308 : decode cL_law 308 = .ok (.iadd, 1) := by decide +kernel
theorem dL_law_309 : decode cL_law 309 = .ok (.iaload, 1) := by decide +kernel
theorem dL_law_310 : decode cL_law 310 = .ok (.aload_n 0, 1) := by decide +kernel
theorem dL_law_311 : decode cL_law 311 = .ok (.iload 4, 2) := by decide +kernel
theorem dL_law_313 : decode cL_law 313 = .ok (.iconst 2, 1) := by decide +kernel
theorem dL_law_314 : decode cL_law 314 = .ok (.iadd, 1) := by decide +kernel
theorem dL_law_315 : decode cL_law 315 = .ok (.iaload, 1) := by decide +kernel
theorem dL_law_316 : decode cL_law 316 = .ok (.aload_n 0, 1) := by decide +kernel
theorem dL_law_317 : decode cL_law 317 = .ok (.iload 4, 2) := by decide +kernel
theorem dL_law_319 : decode cL_law 319 = .ok (.iconst 3, 1) := by decide +kernel
theorem dL_law_320 : decode cL_law 320 = .ok (.iadd, 1) := by decide +kernel
theorem dL_law_321 : decode cL_law 321 = .ok (.iaload, 1) := by decide +kernel
theorem dL_law_322 : decode cL_law 322 = .ok (.i2l, 1) := by decide +kernel
theorem dL_law_323 : decode cL_law 323 = .ok (.bipush 32, 2) := by decide +kernel
theorem dL_law_325 : decode cL_law 325 = .ok (.lshl, 1) := by decide +kernel
theorem dL_law_326 : decode cL_law 326 = .ok (.aload_n 0, 1) := by decide +kernel
theorem dL_law_327 : decode cL_law 327 = .ok (.iload 4, 2) := by decide +kernel
theorem dL_law_329 : decode cL_law 329 = .ok (.iconst 4, 1) := by decide +kernel
theorem dL_law_330 : decode cL_law 330 = .ok (.iadd, 1) := by decide +kernel
theorem dL_law_331 : decode cL_law 331 = .ok (.iaload, 1) := by decide +kernel
theorem dL_law_332 : decode cL_law 332 = .ok (.i2l, 1) := by decide +kernel
theorem dL_law_333 : decode cL_law 333 = .ok (.ldc2_w 80, 3) := by decide +kernel
theorem dL_law_336 : decode cL_law 336 = .ok (.land, 1) := by decide +kernel
theorem dL_law_337 : decode cL_law 337 = .ok (.lor, 1) := by decide +kernel
theorem dL_law_338 : decode cL_law 338 = .ok (.aload_n 0, 1) := by decide +kernel
theorem dL_law_339 : decode cL_law 339 = .ok (.iload 4, 2) := by decide +kernel
theorem dL_law_341 : decode cL_law 341 = .ok (.iconst 5, 1) := by decide +kernel
theorem dL_law_342 : decode cL_law 342 = .ok (.iadd, 1) := by decide +kernel
theorem dL_law_343 : decode cL_law 343 = .ok (.iaload, 1) := by decide +kernel
theorem dL_law_344 : decode cL_law 344 = .ok (.invokevirtual 85, 3) := by decide +kernel
theorem dL_law_347 : decode cL_law 347 = .ok (.istore 6, 2) := by decide +kernel
theorem dL_law_349 : decode cL_law 349 = .ok (.aload_n 2, 1) := by decide +kernel
theorem dL_law_350 : decode cL_law 350 = .ok (.invokevirtual 72, 3) := by decide +kernel
theorem dL_law_353 : decode cL_law 353 = .ok (.iload 5, 2) := by decide +kernel
theorem dL_law_355 : decode cL_law 355 = .ok (.if_icmp .eq 5, 3) := by decide +kernel
theorem dL_law_358 : decode cL_law 358 = .ok (.iconst 0, 1) := by decide +kernel
theorem dL_law_359 : decode cL_law 359 = .ok (.ireturn, 1) := by decide +kernel
theorem dL_law_360 : decode cL_law 360 = .ok (.iload 5, 2) := by decide +kernel
theorem dL_law_362 : decode cL_law 362 = .ok (.ifCond .ne 15, 3) := by decide +kernel
theorem dL_law_365 : decode cL_law 365 = .ok (.aload_n 3, 1) := by decide +kernel
theorem dL_law_366 : decode cL_law 366 = .ok (.iconst 0, 1) := by decide +kernel
theorem dL_law_367 : decode cL_law 367 = .ok (.laload, 1) := by decide +kernel
theorem dL_law_368 : decode cL_law 368 = .ok (.iload 6, 2) := by decide +kernel
theorem dL_law_370 : decode cL_law 370 = .ok (.i2l, 1) := by decide +kernel
theorem dL_law_371 : decode cL_law 371 = .ok (.lcmp, 1) := by decide +kernel
theorem dL_law_372 : decode cL_law 372 = .ok (.ifCond .eq 5, 3) := by decide +kernel
theorem dL_law_375 : decode cL_law 375 = .ok (.iconst 0, 1) := by decide +kernel
theorem dL_law_376 : decode cL_law 376 = .ok (.ireturn, 1) := by decide +kernel
theorem dL_law_377 : decode cL_law 377 = .ok (.goto 718, 3) := by decide +kernel
theorem dL_law_380 : decode cL_law 380 = .ok (.aload_n 1, 1) := by decide +kernel
theorem dL_law_381 : decode cL_law 381 = .ok (.aload_n 0, 1) := by decide +kernel
theorem dL_law_382 : decode cL_law 382 = .ok (.iload 4, 2) := by decide +kernel
theorem dL_law_384 : decode cL_law 384 = .ok (.iconst 1, 1) := by decide +kernel
theorem dL_law_385 : decode cL_law 385 = .ok (.iadd, 1) := by decide +kernel
theorem dL_law_386 : decode cL_law 386 = .ok (.iaload, 1) := by decide +kernel
theorem dL_law_387 : decode cL_law 387 = .ok (.aload_n 3, 1) := by decide +kernel
theorem dL_law_388 : decode cL_law 388 = .ok (.invokestatic 86, 3) := by decide +kernel
theorem dL_law_391 : decode cL_law 391 = .ok (.istore 5, 2) := by decide +kernel
theorem dL_law_393 : decode cL_law 393 = .ok (.aload_n 2, 1) := by decide +kernel
theorem dL_law_394 : decode cL_law 394 = .ok (.aload_n 0, 1) := by decide +kernel
theorem dL_law_395 : decode cL_law 395 = .ok (.iload 4, 2) := by decide +kernel
theorem dL_law_397 : decode cL_law 397 = .ok (.iconst 1, 1) := by decide +kernel
theorem dL_law_398 : decode cL_law 398 = .ok (.iadd, 1) := by decide +kernel
theorem dL_law_399 : decode cL_law 399 = .ok (.iaload, 1) := by decide +kernel
theorem dL_law_400 : decode cL_law 400 = .ok (.invokevirtual 89, 3) := by decide +kernel
theorem dL_law_403 : decode cL_law 403 = .ok (.istore 6, 2) := by decide +kernel
theorem dL_law_405 : decode cL_law 405 = .ok (.aload_n 2, 1) := by decide +kernel
theorem dL_law_406 : decode cL_law 406 = .ok (.invokevirtual 72, 3) := by decide +kernel
theorem dL_law_409 : decode cL_law 409 = .ok (.iload 5, 2) := by decide +kernel
theorem dL_law_411 : decode cL_law 411 = .ok (.if_icmp .eq 5, 3) := by decide +kernel
theorem dL_law_414 : decode cL_law 414 = .ok (.iconst 0, 1) := by decide +kernel
theorem dL_law_415 : decode cL_law 415 = .ok (.ireturn, 1) := by decide +kernel
theorem dL_law_416 : decode cL_law 416 = .ok (.iload 5, 2) := by decide +kernel
theorem dL_law_418 : decode cL_law 418 = .ok (.ifCond .ne 15, 3) := by decide +kernel
theorem dL_law_421 : decode cL_law 421 = .ok (.aload_n 3, 1) := by decide +kernel
theorem dL_law_422 : decode cL_law 422 = .ok (.iconst 0, 1) := by decide +kernel
theorem dL_law_423 : decode cL_law 423 = .ok (.laload, 1) := by decide +kernel
theorem dL_law_424 : decode cL_law 424 = .ok (.iload 6, 2) := by decide +kernel
theorem dL_law_426 : decode cL_law 426 = .ok (.i2l, 1) := by decide +kernel
theorem dL_law_427 : decode cL_law 427 = .ok (.lcmp, 1) := by decide +kernel
theorem dL_law_428 : decode cL_law 428 = .ok (.ifCond .eq 5, 3) := by decide +kernel
theorem dL_law_431 : decode cL_law 431 = .ok (.iconst 0, 1) := by decide +kernel
theorem dL_law_432 : decode cL_law 432 = .ok (.ireturn, 1) := by decide +kernel
theorem dL_law_433 : decode cL_law 433 = .ok (.goto 662, 3) := by decide +kernel
theorem dL_law_436 : decode cL_law 436 = .ok (.aload_n 1, 1) := by decide +kernel
theorem dL_law_437 : decode cL_law 437 = .ok (.aload_n 0, 1) := by decide +kernel
theorem dL_law_438 : decode cL_law 438 = .ok (.iload 4, 2) := by decide +kernel
theorem dL_law_440 : decode cL_law 440 = .ok (.iconst 1, 1) := by decide +kernel
theorem dL_law_441 : decode cL_law 441 = .ok (.iadd, 1) := by decide +kernel
theorem dL_law_442 : decode cL_law 442 = .ok (.iaload, 1) := by decide +kernel
theorem dL_law_443 : decode cL_law 443 = .ok (.aload_n 0, 1) := by decide +kernel
theorem dL_law_444 : decode cL_law 444 = .ok (.iload 4, 2) := by decide +kernel
theorem dL_law_446 : decode cL_law 446 = .ok (.iconst 2, 1) := by decide +kernel
theorem dL_law_447 : decode cL_law 447 = .ok (.iadd, 1) := by decide +kernel
theorem dL_law_448 : decode cL_law 448 = .ok (.iaload, 1) := by decide +kernel
theorem dL_law_449 : decode cL_law 449 = .ok (.aload_n 3, 1) := by decide +kernel
theorem dL_law_450 : decode cL_law 450 = .ok (.invokestatic 90, 3) := by decide +kernel
theorem dL_law_453 : decode cL_law 453 = .ok (.istore 5, 2) := by decide +kernel
theorem dL_law_455 : decode cL_law 455 = .ok (.aload_n 2, 1) := by decide +kernel
theorem dL_law_456 : decode cL_law 456 = .ok (.aload_n 0, 1) := by decide +kernel
theorem dL_law_457 : decode cL_law 457 = .ok (.iload 4, 2) := by decide +kernel
theorem dL_law_459 : decode cL_law 459 = .ok (.iconst 1, 1) := by decide +kernel
theorem dL_law_460 : decode cL_law 460 = .ok (.iadd, 1) := by decide +kernel
theorem dL_law_461 : decode cL_law 461 = .ok (.iaload, 1) := by decide +kernel
theorem dL_law_462 : decode cL_law 462 = .ok (.aload_n 0, 1) := by decide +kernel
theorem dL_law_463 : decode cL_law 463 = .ok (.iload 4, 2) := by decide +kernel
theorem dL_law_465 : decode cL_law 465 = .ok (.iconst 2, 1) := by decide +kernel
theorem dL_law_466 : decode cL_law 466 = .ok (.iadd, 1) := by decide +kernel
theorem dL_law_467 : decode cL_law 467 = .ok (.iaload, 1) := by decide +kernel
theorem dL_law_468 : decode cL_law 468 = .ok (.invokevirtual 92, 3) := by decide +kernel
theorem dL_law_471 : decode cL_law 471 = .ok (.istore 6, 2) := by decide +kernel
theorem dL_law_473 : decode cL_law 473 = .ok (.aload_n 2, 1) := by decide +kernel
theorem dL_law_474 : decode cL_law 474 = .ok (.invokevirtual 72, 3) := by decide +kernel
theorem dL_law_477 : decode cL_law 477 = .ok (.iload 5, 2) := by decide +kernel
theorem dL_law_479 : decode cL_law 479 = .ok (.if_icmp .eq 5, 3) := by decide +kernel
theorem dL_law_482 : decode cL_law 482 = .ok (.iconst 0, 1) := by decide +kernel
theorem dL_law_483 : decode cL_law 483 = .ok (.ireturn, 1) := by decide +kernel
theorem dL_law_484 : decode cL_law 484 = .ok (.iload 5, 2) := by decide +kernel
theorem dL_law_486 : decode cL_law 486 = .ok (.ifCond .ne 15, 3) := by decide +kernel
theorem dL_law_489 : decode cL_law 489 = .ok (.aload_n 3, 1) := by decide +kernel
theorem dL_law_490 : decode cL_law 490 = .ok (.iconst 0, 1) := by decide +kernel
theorem dL_law_491 : decode cL_law 491 = .ok (.laload, 1) := by decide +kernel
theorem dL_law_492 : decode cL_law 492 = .ok (.iload 6, 2) := by decide +kernel
theorem dL_law_494 : decode cL_law 494 = .ok (.i2l, 1) := by decide +kernel
theorem dL_law_495 : decode cL_law 495 = .ok (.lcmp, 1) := by decide +kernel
theorem dL_law_496 : decode cL_law 496 = .ok (.ifCond .eq 5, 3) := by decide +kernel
theorem dL_law_499 : decode cL_law 499 = .ok (.iconst 0, 1) := by decide +kernel
theorem dL_law_500 : decode cL_law 500 = .ok (.ireturn, 1) := by decide +kernel
theorem dL_law_501 : decode cL_law 501 = .ok (.goto 594, 3) := by decide +kernel
theorem dL_law_504 : decode cL_law 504 = .ok (.aload_n 1, 1) := by decide +kernel
theorem dL_law_505 : decode cL_law 505 = .ok (.aload_n 0, 1) := by decide +kernel
theorem dL_law_506 : decode cL_law 506 = .ok (.iload 4, 2) := by decide +kernel
theorem dL_law_508 : decode cL_law 508 = .ok (.iconst 1, 1) := by decide +kernel
theorem dL_law_509 : decode cL_law 509 = .ok (.iadd, 1) := by decide +kernel
theorem dL_law_510 : decode cL_law 510 = .ok (.iaload, 1) := by decide +kernel
theorem dL_law_511 : decode cL_law 511 = .ok (.aload_n 0, 1) := by decide +kernel
theorem dL_law_512 : decode cL_law 512 = .ok (.iload 4, 2) := by decide +kernel
theorem dL_law_514 : decode cL_law 514 = .ok (.iconst 2, 1) := by decide +kernel
theorem dL_law_515 : decode cL_law 515 = .ok (.iadd, 1) := by decide +kernel
theorem dL_law_516 : decode cL_law 516 = .ok (.iaload, 1) := by decide +kernel
theorem dL_law_517 : decode cL_law 517 = .ok (.ifCond .eq 7, 3) := by decide +kernel
theorem dL_law_520 : decode cL_law 520 = .ok (.iconst 1, 1) := by decide +kernel
theorem dL_law_521 : decode cL_law 521 = .ok (.goto 4, 3) := by decide +kernel
theorem dL_law_524 : decode cL_law 524 = .ok (.iconst 0, 1) := by decide +kernel
theorem dL_law_525 : decode cL_law 525 = .ok (.aload_n 3, 1) := by decide +kernel
theorem dL_law_526 : decode cL_law 526 = .ok (.invokestatic 93, 3) := by decide +kernel
theorem dL_law_529 : decode cL_law 529 = .ok (.istore 5, 2) := by decide +kernel
theorem dL_law_531 : decode cL_law 531 = .ok (.aload_n 2, 1) := by decide +kernel
theorem dL_law_532 : decode cL_law 532 = .ok (.aload_n 0, 1) := by decide +kernel
theorem dL_law_533 : decode cL_law 533 = .ok (.iload 4, 2) := by decide +kernel
theorem dL_law_535 : decode cL_law 535 = .ok (.iconst 1, 1) := by decide +kernel
theorem dL_law_536 : decode cL_law 536 = .ok (.iadd, 1) := by decide +kernel
theorem dL_law_537 : decode cL_law 537 = .ok (.iaload, 1) := by decide +kernel
theorem dL_law_538 : decode cL_law 538 = .ok (.aload_n 0, 1) := by decide +kernel
theorem dL_law_539 : decode cL_law 539 = .ok (.iload 4, 2) := by decide +kernel
theorem dL_law_541 : decode cL_law 541 = .ok (.iconst 2, 1) := by decide +kernel
theorem dL_law_542 : decode cL_law 542 = .ok (.iadd, 1) := by decide +kernel
theorem dL_law_543 : decode cL_law 543 = .ok (.iaload, 1) := by decide +kernel
theorem dL_law_544 : decode cL_law 544 = .ok (.ifCond .eq 7, 3) := by decide +kernel
theorem dL_law_547 : decode cL_law 547 = .ok (.iconst 1, 1) := by decide +kernel
theorem dL_law_548 : decode cL_law 548 = .ok (.goto 4, 3) := by decide +kernel
theorem dL_law_551 : decode cL_law 551 = .ok (.iconst 0, 1) := by decide +kernel
theorem dL_law_552 : decode cL_law 552 = .ok (.invokevirtual 96, 3) := by decide +kernel
theorem dL_law_555 : decode cL_law 555 = .ok (.istore 6, 2) := by decide +kernel
theorem dL_law_557 : decode cL_law 557 = .ok (.aload_n 2, 1) := by decide +kernel
theorem dL_law_558 : decode cL_law 558 = .ok (.invokevirtual 72, 3) := by decide +kernel
theorem dL_law_561 : decode cL_law 561 = .ok (.iload 5, 2) := by decide +kernel
theorem dL_law_563 : decode cL_law 563 = .ok (.if_icmp .eq 5, 3) := by decide +kernel
theorem dL_law_566 : decode cL_law 566 = .ok (.iconst 0, 1) := by decide +kernel
theorem dL_law_567 : decode cL_law 567 = .ok (.ireturn, 1) := by decide +kernel
theorem dL_law_568 : decode cL_law 568 = .ok (.iload 5, 2) := by decide +kernel
theorem dL_law_570 : decode cL_law 570 = .ok (.ifCond .ne 15, 3) := by decide +kernel
theorem dL_law_573 : decode cL_law 573 = .ok (.aload_n 3, 1) := by decide +kernel
theorem dL_law_574 : decode cL_law 574 = .ok (.iconst 0, 1) := by decide +kernel
theorem dL_law_575 : decode cL_law 575 = .ok (.laload, 1) := by decide +kernel
theorem dL_law_576 : decode cL_law 576 = .ok (.iload 6, 2) := by decide +kernel
theorem dL_law_578 : decode cL_law 578 = .ok (.i2l, 1) := by decide +kernel
theorem dL_law_579 : decode cL_law 579 = .ok (.lcmp, 1) := by decide +kernel
theorem dL_law_580 : decode cL_law 580 = .ok (.ifCond .eq 5, 3) := by decide +kernel
theorem dL_law_583 : decode cL_law 583 = .ok (.iconst 0, 1) := by decide +kernel
theorem dL_law_584 : decode cL_law 584 = .ok (.ireturn, 1) := by decide +kernel
theorem dL_law_585 : decode cL_law 585 = .ok (.goto 510, 3) := by decide +kernel
theorem dL_law_588 : decode cL_law 588 = .ok (.aload_n 1, 1) := by decide +kernel
theorem dL_law_589 : decode cL_law 589 = .ok (.aload_n 0, 1) := by decide +kernel
theorem dL_law_590 : decode cL_law 590 = .ok (.iload 4, 2) := by decide +kernel
theorem dL_law_592 : decode cL_law 592 = .ok (.iconst 1, 1) := by decide +kernel
theorem dL_law_593 : decode cL_law 593 = .ok (.iadd, 1) := by decide +kernel
theorem dL_law_594 : decode cL_law 594 = .ok (.iaload, 1) := by decide +kernel
theorem dL_law_595 : decode cL_law 595 = .ok (.aload_n 0, 1) := by decide +kernel
theorem dL_law_596 : decode cL_law 596 = .ok (.iload 4, 2) := by decide +kernel
theorem dL_law_598 : decode cL_law 598 = .ok (.iconst 2, 1) := by decide +kernel
theorem dL_law_599 : decode cL_law 599 = .ok (.iadd, 1) := by decide +kernel
theorem dL_law_600 : decode cL_law 600 = .ok (.iaload, 1) := by decide +kernel
theorem dL_law_601 : decode cL_law 601 = .ok (.aload_n 3, 1) := by decide +kernel
theorem dL_law_602 : decode cL_law 602 = .ok (.invokestatic 97, 3) := by decide +kernel
theorem dL_law_605 : decode cL_law 605 = .ok (.istore 5, 2) := by decide +kernel
theorem dL_law_607 : decode cL_law 607 = .ok (.aload_n 2, 1) := by decide +kernel
theorem dL_law_608 : decode cL_law 608 = .ok (.aload_n 0, 1) := by decide +kernel
theorem dL_law_609 : decode cL_law 609 = .ok (.iload 4, 2) := by decide +kernel
theorem dL_law_611 : decode cL_law 611 = .ok (.iconst 1, 1) := by decide +kernel
theorem dL_law_612 : decode cL_law 612 = .ok (.iadd, 1) := by decide +kernel
theorem dL_law_613 : decode cL_law 613 = .ok (.iaload, 1) := by decide +kernel
theorem dL_law_614 : decode cL_law 614 = .ok (.aload_n 0, 1) := by decide +kernel
theorem dL_law_615 : decode cL_law 615 = .ok (.iload 4, 2) := by decide +kernel
theorem dL_law_617 : decode cL_law 617 = .ok (.iconst 2, 1) := by decide +kernel
theorem dL_law_618 : decode cL_law 618 = .ok (.iadd, 1) := by decide +kernel
theorem dL_law_619 : decode cL_law 619 = .ok (.iaload, 1) := by decide +kernel
theorem dL_law_620 : decode cL_law 620 = .ok (.invokevirtual 99, 3) := by decide +kernel
theorem dL_law_623 : decode cL_law 623 = .ok (.istore 6, 2) := by decide +kernel
theorem dL_law_625 : decode cL_law 625 = .ok (.aload_n 2, 1) := by decide +kernel
theorem dL_law_626 : decode cL_law 626 = .ok (.invokevirtual 72, 3) := by decide +kernel
theorem dL_law_629 : decode cL_law 629 = .ok (.iload 5, 2) := by decide +kernel
theorem dL_law_631 : decode cL_law 631 = .ok (.if_icmp .eq 5, 3) := by decide +kernel
theorem dL_law_634 : decode cL_law 634 = .ok (.iconst 0, 1) := by decide +kernel
theorem dL_law_635 : decode cL_law 635 = .ok (.ireturn, 1) := by decide +kernel
theorem dL_law_636 : decode cL_law 636 = .ok (.iload 5, 2) := by decide +kernel
theorem dL_law_638 : decode cL_law 638 = .ok (.ifCond .ne 22, 3) := by decide +kernel
theorem dL_law_641 : decode cL_law 641 = .ok (.aload_n 3, 1) := by decide +kernel
theorem dL_law_642 : decode cL_law 642 = .ok (.iconst 0, 1) := by decide +kernel
theorem dL_law_643 : decode cL_law 643 = .ok (.laload, 1) := by decide +kernel
theorem dL_law_644 : decode cL_law 644 = .ok (.iload 6, 2) := by decide +kernel
theorem dL_law_646 : decode cL_law 646 = .ok (.ifCond .eq 7, 3) := by decide +kernel
theorem dL_law_649 : decode cL_law 649 = .ok (.lconst 1, 1) := by decide +kernel
theorem dL_law_650 : decode cL_law 650 = .ok (.goto 4, 3) := by decide +kernel
theorem dL_law_653 : decode cL_law 653 = .ok (.lconst 0, 1) := by decide +kernel
theorem dL_law_654 : decode cL_law 654 = .ok (.lcmp, 1) := by decide +kernel
theorem dL_law_655 : decode cL_law 655 = .ok (.ifCond .eq 5, 3) := by decide +kernel
theorem dL_law_658 : decode cL_law 658 = .ok (.iconst 0, 1) := by decide +kernel
theorem dL_law_659 : decode cL_law 659 = .ok (.ireturn, 1) := by decide +kernel
theorem dL_law_660 : decode cL_law 660 = .ok (.goto 435, 3) := by decide +kernel
theorem dL_law_663 : decode cL_law 663 = .ok (.aload_n 1, 1) := by decide +kernel
theorem dL_law_664 : decode cL_law 664 = .ok (.aload_n 0, 1) := by decide +kernel
theorem dL_law_665 : decode cL_law 665 = .ok (.iload 4, 2) := by decide +kernel
theorem dL_law_667 : decode cL_law 667 = .ok (.iconst 1, 1) := by decide +kernel
theorem dL_law_668 : decode cL_law 668 = .ok (.iadd, 1) := by decide +kernel
theorem dL_law_669 : decode cL_law 669 = .ok (.iaload, 1) := by decide +kernel
theorem dL_law_670 : decode cL_law 670 = .ok (.aload_n 3, 1) := by decide +kernel
theorem dL_law_671 : decode cL_law 671 = .ok (.invokestatic 100, 3) := by decide +kernel
theorem dL_law_674 : decode cL_law 674 = .ok (.istore 5, 2) := by decide +kernel
theorem dL_law_676 : decode cL_law 676 = .ok (.aload_n 2, 1) := by decide +kernel
theorem dL_law_677 : decode cL_law 677 = .ok (.aload_n 0, 1) := by decide +kernel
theorem dL_law_678 : decode cL_law 678 = .ok (.iload 4, 2) := by decide +kernel
theorem dL_law_680 : decode cL_law 680 = .ok (.iconst 1, 1) := by decide +kernel
theorem dL_law_681 : decode cL_law 681 = .ok (.iadd, 1) := by decide +kernel
theorem dL_law_682 : decode cL_law 682 = .ok (.iaload, 1) := by decide +kernel
theorem dL_law_683 : decode cL_law 683 = .ok (.invokevirtual 102, 3) := by decide +kernel
theorem dL_law_686 : decode cL_law 686 = .ok (.istore 6, 2) := by decide +kernel
theorem dL_law_688 : decode cL_law 688 = .ok (.aload_n 2, 1) := by decide +kernel
theorem dL_law_689 : decode cL_law 689 = .ok (.invokevirtual 72, 3) := by decide +kernel
theorem dL_law_692 : decode cL_law 692 = .ok (.iload 5, 2) := by decide +kernel
theorem dL_law_694 : decode cL_law 694 = .ok (.if_icmp .eq 5, 3) := by decide +kernel
theorem dL_law_697 : decode cL_law 697 = .ok (.iconst 0, 1) := by decide +kernel
theorem dL_law_698 : decode cL_law 698 = .ok (.ireturn, 1) := by decide +kernel
theorem dL_law_699 : decode cL_law 699 = .ok (.iload 5, 2) := by decide +kernel
theorem dL_law_701 : decode cL_law 701 = .ok (.ifCond .ne 15, 3) := by decide +kernel
theorem dL_law_704 : decode cL_law 704 = .ok (.aload_n 3, 1) := by decide +kernel
theorem dL_law_705 : decode cL_law 705 = .ok (.iconst 0, 1) := by decide +kernel
theorem dL_law_706 : decode cL_law 706 = .ok (.laload, 1) := by decide +kernel
theorem dL_law_707 : decode cL_law 707 = .ok (.iload 6, 2) := by decide +kernel
theorem dL_law_709 : decode cL_law 709 = .ok (.i2l, 1) := by decide +kernel
theorem dL_law_710 : decode cL_law 710 = .ok (.lcmp, 1) := by decide +kernel
theorem dL_law_711 : decode cL_law 711 = .ok (.ifCond .eq 5, 3) := by decide +kernel
theorem dL_law_714 : decode cL_law 714 = .ok (.iconst 0, 1) := by decide +kernel
theorem dL_law_715 : decode cL_law 715 = .ok (.ireturn, 1) := by decide +kernel
theorem dL_law_716 : decode cL_law 716 = .ok (.goto 379, 3) := by decide +kernel
theorem dL_law_719 : decode cL_law 719 = .ok (.aload_n 1, 1) := by decide +kernel
theorem dL_law_720 : decode cL_law 720 = .ok (.aload_n 0, 1) := by decide +kernel
theorem dL_law_721 : decode cL_law 721 = .ok (.iload 4, 2) := by decide +kernel
theorem dL_law_723 : decode cL_law 723 = .ok (.iconst 1, 1) := by decide +kernel
theorem dL_law_724 : decode cL_law 724 = .ok (.iadd, 1) := by decide +kernel
theorem dL_law_725 : decode cL_law 725 = .ok (.iaload, 1) := by decide +kernel
theorem dL_law_726 : decode cL_law 726 = .ok (.aload_n 0, 1) := by decide +kernel
theorem dL_law_727 : decode cL_law 727 = .ok (.iload 4, 2) := by decide +kernel
theorem dL_law_729 : decode cL_law 729 = .ok (.iconst 2, 1) := by decide +kernel
theorem dL_law_730 : decode cL_law 730 = .ok (.iadd, 1) := by decide +kernel
theorem dL_law_731 : decode cL_law 731 = .ok (.iaload, 1) := by decide +kernel
theorem dL_law_732 : decode cL_law 732 = .ok (.aload_n 3, 1) := by decide +kernel
theorem dL_law_733 : decode cL_law 733 = .ok (.invokestatic 103, 3) := by decide +kernel
theorem dL_law_736 : decode cL_law 736 = .ok (.istore 5, 2) := by decide +kernel
theorem dL_law_738 : decode cL_law 738 = .ok (.aload_n 2, 1) := by decide +kernel
theorem dL_law_739 : decode cL_law 739 = .ok (.aload_n 0, 1) := by decide +kernel
theorem dL_law_740 : decode cL_law 740 = .ok (.iload 4, 2) := by decide +kernel
theorem dL_law_742 : decode cL_law 742 = .ok (.iconst 1, 1) := by decide +kernel
theorem dL_law_743 : decode cL_law 743 = .ok (.iadd, 1) := by decide +kernel
theorem dL_law_744 : decode cL_law 744 = .ok (.iaload, 1) := by decide +kernel
theorem dL_law_745 : decode cL_law 745 = .ok (.aload_n 0, 1) := by decide +kernel
theorem dL_law_746 : decode cL_law 746 = .ok (.iload 4, 2) := by decide +kernel
theorem dL_law_748 : decode cL_law 748 = .ok (.iconst 2, 1) := by decide +kernel
theorem dL_law_749 : decode cL_law 749 = .ok (.iadd, 1) := by decide +kernel
theorem dL_law_750 : decode cL_law 750 = .ok (.iaload, 1) := by decide +kernel
theorem dL_law_751 : decode cL_law 751 = .ok (.invokevirtual 105, 3) := by decide +kernel
theorem dL_law_754 : decode cL_law 754 = .ok (.istore 6, 2) := by decide +kernel
theorem dL_law_756 : decode cL_law 756 = .ok (.aload_n 2, 1) := by decide +kernel
theorem dL_law_757 : decode cL_law 757 = .ok (.invokevirtual 72, 3) := by decide +kernel
theorem dL_law_760 : decode cL_law 760 = .ok (.iload 5, 2) := by decide +kernel
theorem dL_law_762 : decode cL_law 762 = .ok (.if_icmp .eq 5, 3) := by decide +kernel
theorem dL_law_765 : decode cL_law 765 = .ok (.iconst 0, 1) := by decide +kernel
theorem dL_law_766 : decode cL_law 766 = .ok (.ireturn, 1) := by decide +kernel
theorem dL_law_767 : decode cL_law 767 = .ok (.iload 5, 2) := by decide +kernel
theorem dL_law_769 : decode cL_law 769 = .ok (.ifCond .ne 15, 3) := by decide +kernel
theorem dL_law_772 : decode cL_law 772 = .ok (.aload_n 3, 1) := by decide +kernel
theorem dL_law_773 : decode cL_law 773 = .ok (.iconst 0, 1) := by decide +kernel
theorem dL_law_774 : decode cL_law 774 = .ok (.laload, 1) := by decide +kernel
theorem dL_law_775 : decode cL_law 775 = .ok (.iload 6, 2) := by decide +kernel
theorem dL_law_777 : decode cL_law 777 = .ok (.i2l, 1) := by decide +kernel
theorem dL_law_778 : decode cL_law 778 = .ok (.lcmp, 1) := by decide +kernel
theorem dL_law_779 : decode cL_law 779 = .ok (.ifCond .eq 5, 3) := by decide +kernel
theorem dL_law_782 : decode cL_law 782 = .ok (.iconst 0, 1) := by decide +kernel
theorem dL_law_783 : decode cL_law 783 = .ok (.ireturn, 1) := by decide +kernel
theorem dL_law_784 : decode cL_law 784 = .ok (.goto 311, 3) := by decide +kernel
theorem dL_law_787 : decode cL_law 787 = .ok (.aload_n 1, 1) := by decide +kernel
theorem dL_law_788 : decode cL_law 788 = .ok (.aload_n 0, 1) := by decide +kernel
theorem dL_law_789 : decode cL_law 789 = .ok (.iload 4, 2) := by decide +kernel
theorem dL_law_791 : decode cL_law 791 = .ok (.iconst 1, 1) := by decide +kernel
theorem dL_law_792 : decode cL_law 792 = .ok (.iadd, 1) := by decide +kernel
theorem dL_law_793 : decode cL_law 793 = .ok (.iaload, 1) := by decide +kernel
theorem dL_law_794 : decode cL_law 794 = .ok (.aload_n 0, 1) := by decide +kernel
theorem dL_law_795 : decode cL_law 795 = .ok (.iload 4, 2) := by decide +kernel
theorem dL_law_797 : decode cL_law 797 = .ok (.iconst 2, 1) := by decide +kernel
theorem dL_law_798 : decode cL_law 798 = .ok (.iadd, 1) := by decide +kernel
theorem dL_law_799 : decode cL_law 799 = .ok (.iaload, 1) := by decide +kernel
theorem dL_law_800 : decode cL_law 800 = .ok (.aload_n 0, 1) := by decide +kernel
theorem dL_law_801 : decode cL_law 801 = .ok (.iload 4, 2) := by decide +kernel
theorem dL_law_803 : decode cL_law 803 = .ok (.iconst 3, 1) := by decide +kernel
theorem dL_law_804 : decode cL_law 804 = .ok (.iadd, 1) := by decide +kernel
theorem dL_law_805 : decode cL_law 805 = .ok (.iaload, 1) := by decide +kernel
theorem dL_law_806 : decode cL_law 806 = .ok (.aload_n 3, 1) := by decide +kernel
theorem dL_law_807 : decode cL_law 807 = .ok (.invokestatic 106, 3) := by decide +kernel
theorem dL_law_810 : decode cL_law 810 = .ok (.istore 5, 2) := by decide +kernel
theorem dL_law_812 : decode cL_law 812 = .ok (.aload_n 2, 1) := by decide +kernel
theorem dL_law_813 : decode cL_law 813 = .ok (.aload_n 0, 1) := by decide +kernel
theorem dL_law_814 : decode cL_law 814 = .ok (.iload 4, 2) := by decide +kernel
theorem dL_law_816 : decode cL_law 816 = .ok (.iconst 1, 1) := by decide +kernel
theorem dL_law_817 : decode cL_law 817 = .ok (.iadd, 1) := by decide +kernel
theorem dL_law_818 : decode cL_law 818 = .ok (.iaload, 1) := by decide +kernel
theorem dL_law_819 : decode cL_law 819 = .ok (.aload_n 0, 1) := by decide +kernel
theorem dL_law_820 : decode cL_law 820 = .ok (.iload 4, 2) := by decide +kernel
theorem dL_law_822 : decode cL_law 822 = .ok (.iconst 2, 1) := by decide +kernel
theorem dL_law_823 : decode cL_law 823 = .ok (.iadd, 1) := by decide +kernel
theorem dL_law_824 : decode cL_law 824 = .ok (.iaload, 1) := by decide +kernel
theorem dL_law_825 : decode cL_law 825 = .ok (.aload_n 0, 1) := by decide +kernel
theorem dL_law_826 : decode cL_law 826 = .ok (.iload 4, 2) := by decide +kernel
theorem dL_law_828 : decode cL_law 828 = .ok (.iconst 3, 1) := by decide +kernel
theorem dL_law_829 : decode cL_law 829 = .ok (.iadd, 1) := by decide +kernel
theorem dL_law_830 : decode cL_law 830 = .ok (.iaload, 1) := by decide +kernel
theorem dL_law_831 : decode cL_law 831 = .ok (.invokevirtual 108, 3) := by decide +kernel
theorem dL_law_834 : decode cL_law 834 = .ok (.istore 6, 2) := by decide +kernel
theorem dL_law_836 : decode cL_law 836 = .ok (.aload_n 2, 1) := by decide +kernel
theorem dL_law_837 : decode cL_law 837 = .ok (.invokevirtual 72, 3) := by decide +kernel
theorem dL_law_840 : decode cL_law 840 = .ok (.iload 5, 2) := by decide +kernel
theorem dL_law_842 : decode cL_law 842 = .ok (.if_icmp .eq 5, 3) := by decide +kernel
theorem dL_law_845 : decode cL_law 845 = .ok (.iconst 0, 1) := by decide +kernel
theorem dL_law_846 : decode cL_law 846 = .ok (.ireturn, 1) := by decide +kernel
theorem dL_law_847 : decode cL_law 847 = .ok (.iload 5, 2) := by decide +kernel
theorem dL_law_849 : decode cL_law 849 = .ok (.ifCond .ne 15, 3) := by decide +kernel
theorem dL_law_852 : decode cL_law 852 = .ok (.aload_n 3, 1) := by decide +kernel
theorem dL_law_853 : decode cL_law 853 = .ok (.iconst 0, 1) := by decide +kernel
theorem dL_law_854 : decode cL_law 854 = .ok (.laload, 1) := by decide +kernel
theorem dL_law_855 : decode cL_law 855 = .ok (.iload 6, 2) := by decide +kernel
theorem dL_law_857 : decode cL_law 857 = .ok (.i2l, 1) := by decide +kernel
theorem dL_law_858 : decode cL_law 858 = .ok (.lcmp, 1) := by decide +kernel
theorem dL_law_859 : decode cL_law 859 = .ok (.ifCond .eq 5, 3) := by decide +kernel
theorem dL_law_862 : decode cL_law 862 = .ok (.iconst 0, 1) := by decide +kernel
theorem dL_law_863 : decode cL_law 863 = .ok (.ireturn, 1) := by decide +kernel
theorem dL_law_864 : decode cL_law 864 = .ok (.goto 231, 3) := by decide +kernel
theorem dL_law_867 : decode cL_law 867 = .ok (.aload_n 1, 1) := by decide +kernel
theorem dL_law_868 : decode cL_law 868 = .ok (.aload_n 0, 1) := by decide +kernel
theorem dL_law_869 : decode cL_law 869 = .ok (.iload 4, 2) := by decide +kernel
theorem dL_law_871 : decode cL_law 871 = .ok (.iconst 1, 1) := by decide +kernel
theorem dL_law_872 : decode cL_law 872 = .ok (.iadd, 1) := by decide +kernel
theorem dL_law_873 : decode cL_law 873 = .ok (.iaload, 1) := by decide +kernel
theorem dL_law_874 : decode cL_law 874 = .ok (.aload_n 0, 1) := by decide +kernel
theorem dL_law_875 : decode cL_law 875 = .ok (.iload 4, 2) := by decide +kernel
theorem dL_law_877 : decode cL_law 877 = .ok (.iconst 2, 1) := by decide +kernel
theorem dL_law_878 : decode cL_law 878 = .ok (.iadd, 1) := by decide +kernel
theorem dL_law_879 : decode cL_law 879 = .ok (.iaload, 1) := by decide +kernel
theorem dL_law_880 : decode cL_law 880 = .ok (.aload_n 0, 1) := by decide +kernel
theorem dL_law_881 : decode cL_law 881 = .ok (.iload 4, 2) := by decide +kernel
theorem dL_law_883 : decode cL_law 883 = .ok (.iconst 3, 1) := by decide +kernel
theorem dL_law_884 : decode cL_law 884 = .ok (.iadd, 1) := by decide +kernel
theorem dL_law_885 : decode cL_law 885 = .ok (.iaload, 1) := by decide +kernel
theorem dL_law_886 : decode cL_law 886 = .ok (.aload_n 3, 1) := by decide +kernel
theorem dL_law_887 : decode cL_law 887 = .ok (.invokestatic 109, 3) := by decide +kernel
theorem dL_law_890 : decode cL_law 890 = .ok (.istore 5, 2) := by decide +kernel
theorem dL_law_892 : decode cL_law 892 = .ok (.aload_n 2, 1) := by decide +kernel
theorem dL_law_893 : decode cL_law 893 = .ok (.aload_n 0, 1) := by decide +kernel
theorem dL_law_894 : decode cL_law 894 = .ok (.iload 4, 2) := by decide +kernel
theorem dL_law_896 : decode cL_law 896 = .ok (.iconst 1, 1) := by decide +kernel
theorem dL_law_897 : decode cL_law 897 = .ok (.iadd, 1) := by decide +kernel
theorem dL_law_898 : decode cL_law 898 = .ok (.iaload, 1) := by decide +kernel
theorem dL_law_899 : decode cL_law 899 = .ok (.aload_n 0, 1) := by decide +kernel
theorem dL_law_900 : decode cL_law 900 = .ok (.iload 4, 2) := by decide +kernel
theorem dL_law_902 : decode cL_law 902 = .ok (.iconst 2, 1) := by decide +kernel
theorem dL_law_903 : decode cL_law 903 = .ok (.iadd, 1) := by decide +kernel
theorem dL_law_904 : decode cL_law 904 = .ok (.iaload, 1) := by decide +kernel
theorem dL_law_905 : decode cL_law 905 = .ok (.aload_n 0, 1) := by decide +kernel
theorem dL_law_906 : decode cL_law 906 = .ok (.iload 4, 2) := by decide +kernel
theorem dL_law_908 : decode cL_law 908 = .ok (.iconst 3, 1) := by decide +kernel
theorem dL_law_909 : decode cL_law 909 = .ok (.iadd, 1) := by decide +kernel
theorem dL_law_910 : decode cL_law 910 = .ok (.iaload, 1) := by decide +kernel
theorem dL_law_911 : decode cL_law 911 = .ok (.invokevirtual 111, 3) := by decide +kernel
theorem dL_law_914 : decode cL_law 914 = .ok (.istore 6, 2) := by decide +kernel
theorem dL_law_916 : decode cL_law 916 = .ok (.aload_n 2, 1) := by decide +kernel
theorem dL_law_917 : decode cL_law 917 = .ok (.invokevirtual 72, 3) := by decide +kernel
theorem dL_law_920 : decode cL_law 920 = .ok (.iload 5, 2) := by decide +kernel
theorem dL_law_922 : decode cL_law 922 = .ok (.if_icmp .eq 5, 3) := by decide +kernel
theorem dL_law_925 : decode cL_law 925 = .ok (.iconst 0, 1) := by decide +kernel
theorem dL_law_926 : decode cL_law 926 = .ok (.ireturn, 1) := by decide +kernel
theorem dL_law_927 : decode cL_law 927 = .ok (.iload 5, 2) := by decide +kernel
theorem dL_law_929 : decode cL_law 929 = .ok (.ifCond .ne 15, 3) := by decide +kernel
theorem dL_law_932 : decode cL_law 932 = .ok (.aload_n 3, 1) := by decide +kernel
theorem dL_law_933 : decode cL_law 933 = .ok (.iconst 0, 1) := by decide +kernel
theorem dL_law_934 : decode cL_law 934 = .ok (.laload, 1) := by decide +kernel
theorem dL_law_935 : decode cL_law 935 = .ok (.iload 6, 2) := by decide +kernel
theorem dL_law_937 : decode cL_law 937 = .ok (.i2l, 1) := by decide +kernel
theorem dL_law_938 : decode cL_law 938 = .ok (.lcmp, 1) := by decide +kernel
theorem dL_law_939 : decode cL_law 939 = .ok (.ifCond .eq 5, 3) := by decide +kernel
theorem dL_law_942 : decode cL_law 942 = .ok (.iconst 0, 1) := by decide +kernel
theorem dL_law_943 : decode cL_law 943 = .ok (.ireturn, 1) := by decide +kernel
theorem dL_law_944 : decode cL_law 944 = .ok (.goto 151, 3) := by decide +kernel
theorem dL_law_947 : decode cL_law 947 = .ok (.aload_n 1, 1) := by decide +kernel
theorem dL_law_948 : decode cL_law 948 = .ok (.aload_n 0, 1) := by decide +kernel
theorem dL_law_949 : decode cL_law 949 = .ok (.iload 4, 2) := by decide +kernel
theorem dL_law_951 : decode cL_law 951 = .ok (.iconst 1, 1) := by decide +kernel
theorem dL_law_952 : decode cL_law 952 = .ok (.iadd, 1) := by decide +kernel
theorem dL_law_953 : decode cL_law 953 = .ok (.iaload, 1) := by decide +kernel
theorem dL_law_954 : decode cL_law 954 = .ok (.aload_n 0, 1) := by decide +kernel
theorem dL_law_955 : decode cL_law 955 = .ok (.iload 4, 2) := by decide +kernel
theorem dL_law_957 : decode cL_law 957 = .ok (.iconst 2, 1) := by decide +kernel
theorem dL_law_958 : decode cL_law 958 = .ok (.iadd, 1) := by decide +kernel
theorem dL_law_959 : decode cL_law 959 = .ok (.iaload, 1) := by decide +kernel
theorem dL_law_960 : decode cL_law 960 = .ok (.aload_n 3, 1) := by decide +kernel
theorem dL_law_961 : decode cL_law 961 = .ok (.invokestatic 112, 3) := by decide +kernel
theorem dL_law_964 : decode cL_law 964 = .ok (.istore 5, 2) := by decide +kernel
theorem dL_law_966 : decode cL_law 966 = .ok (.aload_n 2, 1) := by decide +kernel
theorem dL_law_967 : decode cL_law 967 = .ok (.aload_n 0, 1) := by decide +kernel
theorem dL_law_968 : decode cL_law 968 = .ok (.iload 4, 2) := by decide +kernel
theorem dL_law_970 : decode cL_law 970 = .ok (.iconst 1, 1) := by decide +kernel
theorem dL_law_971 : decode cL_law 971 = .ok (.iadd, 1) := by decide +kernel
theorem dL_law_972 : decode cL_law 972 = .ok (.iaload, 1) := by decide +kernel
theorem dL_law_973 : decode cL_law 973 = .ok (.aload_n 0, 1) := by decide +kernel
theorem dL_law_974 : decode cL_law 974 = .ok (.iload 4, 2) := by decide +kernel
theorem dL_law_976 : decode cL_law 976 = .ok (.iconst 2, 1) := by decide +kernel
theorem dL_law_977 : decode cL_law 977 = .ok (.iadd, 1) := by decide +kernel
theorem dL_law_978 : decode cL_law 978 = .ok (.iaload, 1) := by decide +kernel
theorem dL_law_979 : decode cL_law 979 = .ok (.invokevirtual 114, 3) := by decide +kernel
theorem dL_law_982 : decode cL_law 982 = .ok (.istore 6, 2) := by decide +kernel
theorem dL_law_984 : decode cL_law 984 = .ok (.aload_n 2, 1) := by decide +kernel
theorem dL_law_985 : decode cL_law 985 = .ok (.invokevirtual 72, 3) := by decide +kernel
theorem dL_law_988 : decode cL_law 988 = .ok (.iload 5, 2) := by decide +kernel
theorem dL_law_990 : decode cL_law 990 = .ok (.if_icmp .eq 5, 3) := by decide +kernel
theorem dL_law_993 : decode cL_law 993 = .ok (.iconst 0, 1) := by decide +kernel
theorem dL_law_994 : decode cL_law 994 = .ok (.ireturn, 1) := by decide +kernel
theorem dL_law_995 : decode cL_law 995 = .ok (.iload 5, 2) := by decide +kernel
theorem dL_law_997 : decode cL_law 997 = .ok (.ifCond .ne 15, 3) := by decide +kernel
theorem dL_law_1000 : decode cL_law 1000 = .ok (.aload_n 3, 1) := by decide +kernel
theorem dL_law_1001 : decode cL_law 1001 = .ok (.iconst 0, 1) := by decide +kernel
theorem dL_law_1002 : decode cL_law 1002 = .ok (.laload, 1) := by decide +kernel
theorem dL_law_1003 : decode cL_law 1003 = .ok (.iload 6, 2) := by decide +kernel
theorem dL_law_1005 : decode cL_law 1005 = .ok (.i2l, 1) := by decide +kernel
theorem dL_law_1006 : decode cL_law 1006 = .ok (.lcmp, 1) := by decide +kernel
theorem dL_law_1007 : decode cL_law 1007 = .ok (.ifCond .eq 5, 3) := by decide +kernel
theorem dL_law_1010 : decode cL_law 1010 = .ok (.iconst 0, 1) := by decide +kernel
theorem dL_law_1011 : decode cL_law 1011 = .ok (.ireturn, 1) := by decide +kernel
theorem dL_law_1012 : decode cL_law 1012 = .ok (.goto 83, 3) := by decide +kernel
theorem dL_law_1015 : decode cL_law 1015 = .ok (.aload_n 1, 1) := by decide +kernel
theorem dL_law_1016 : decode cL_law 1016 = .ok (.aload_n 0, 1) := by decide +kernel
theorem dL_law_1017 : decode cL_law 1017 = .ok (.iload 4, 2) := by decide +kernel
theorem dL_law_1019 : decode cL_law 1019 = .ok (.iconst 1, 1) := by decide +kernel
theorem dL_law_1020 : decode cL_law 1020 = .ok (.iadd, 1) := by decide +kernel
theorem dL_law_1021 : decode cL_law 1021 = .ok (.iaload, 1) := by decide +kernel
theorem dL_law_1022 : decode cL_law 1022 = .ok (.aload_n 0, 1) := by decide +kernel
theorem dL_law_1023 : decode cL_law 1023 = .ok (.iload 4, 2) := by decide +kernel
theorem dL_law_1025 : decode cL_law 1025 = .ok (.iconst 2, 1) := by decide +kernel
theorem dL_law_1026 : decode cL_law 1026 = .ok (.iadd, 1) := by decide +kernel
theorem dL_law_1027 : decode cL_law 1027 = .ok (.iaload, 1) := by decide +kernel
theorem dL_law_1028 : decode cL_law 1028 = .ok (.aload_n 0, 1) := by decide +kernel
theorem dL_law_1029 : decode cL_law 1029 = .ok (.iload 4, 2) := by decide +kernel
theorem dL_law_1031 : decode cL_law 1031 = .ok (.iconst 3, 1) := by decide +kernel
theorem dL_law_1032 : decode cL_law 1032 = .ok (.iadd, 1) := by decide +kernel
theorem dL_law_1033 : decode cL_law 1033 = .ok (.iaload, 1) := by decide +kernel
theorem dL_law_1034 : decode cL_law 1034 = .ok (.aload_n 3, 1) := by decide +kernel
theorem dL_law_1035 : decode cL_law 1035 = .ok (.invokestatic 115, 3) := by decide +kernel
theorem dL_law_1038 : decode cL_law 1038 = .ok (.istore 5, 2) := by decide +kernel
theorem dL_law_1040 : decode cL_law 1040 = .ok (.aload_n 2, 1) := by decide +kernel
theorem dL_law_1041 : decode cL_law 1041 = .ok (.aload_n 0, 1) := by decide +kernel
theorem dL_law_1042 : decode cL_law 1042 = .ok (.iload 4, 2) := by decide +kernel
theorem dL_law_1044 : decode cL_law 1044 = .ok (.iconst 1, 1) := by decide +kernel
theorem dL_law_1045 : decode cL_law 1045 = .ok (.iadd, 1) := by decide +kernel
theorem dL_law_1046 : decode cL_law 1046 = .ok (.iaload, 1) := by decide +kernel
theorem dL_law_1047 : decode cL_law 1047 = .ok (.aload_n 0, 1) := by decide +kernel
theorem dL_law_1048 : decode cL_law 1048 = .ok (.iload 4, 2) := by decide +kernel
theorem dL_law_1050 : decode cL_law 1050 = .ok (.iconst 2, 1) := by decide +kernel
theorem dL_law_1051 : decode cL_law 1051 = .ok (.iadd, 1) := by decide +kernel
theorem dL_law_1052 : decode cL_law 1052 = .ok (.iaload, 1) := by decide +kernel
theorem dL_law_1053 : decode cL_law 1053 = .ok (.aload_n 0, 1) := by decide +kernel
theorem dL_law_1054 : decode cL_law 1054 = .ok (.iload 4, 2) := by decide +kernel
theorem dL_law_1056 : decode cL_law 1056 = .ok (.iconst 3, 1) := by decide +kernel
theorem dL_law_1057 : decode cL_law 1057 = .ok (.iadd, 1) := by decide +kernel
theorem dL_law_1058 : decode cL_law 1058 = .ok (.iaload, 1) := by decide +kernel
theorem dL_law_1059 : decode cL_law 1059 = .ok (.invokevirtual 117, 3) := by decide +kernel
theorem dL_law_1062 : decode cL_law 1062 = .ok (.istore 6, 2) := by decide +kernel
theorem dL_law_1064 : decode cL_law 1064 = .ok (.aload_n 2, 1) := by decide +kernel
theorem dL_law_1065 : decode cL_law 1065 = .ok (.invokevirtual 72, 3) := by decide +kernel
theorem dL_law_1068 : decode cL_law 1068 = .ok (.iload 5, 2) := by decide +kernel
theorem dL_law_1070 : decode cL_law 1070 = .ok (.if_icmp .eq 5, 3) := by decide +kernel
theorem dL_law_1073 : decode cL_law 1073 = .ok (.iconst 0, 1) := by decide +kernel
theorem dL_law_1074 : decode cL_law 1074 = .ok (.ireturn, 1) := by decide +kernel
theorem dL_law_1075 : decode cL_law 1075 = .ok (.iload 5, 2) := by decide +kernel
theorem dL_law_1077 : decode cL_law 1077 = .ok (.ifCond .ne 15, 3) := by decide +kernel
theorem dL_law_1080 : decode cL_law 1080 = .ok (.aload_n 3, 1) := by decide +kernel
theorem dL_law_1081 : decode cL_law 1081 = .ok (.iconst 0, 1) := by decide +kernel
theorem dL_law_1082 : decode cL_law 1082 = .ok (.laload, 1) := by decide +kernel
theorem dL_law_1083 : decode cL_law 1083 = .ok (.iload 6, 2) := by decide +kernel
theorem dL_law_1085 : decode cL_law 1085 = .ok (.i2l, 1) := by decide +kernel
theorem dL_law_1086 : decode cL_law 1086 = .ok (.lcmp, 1) := by decide +kernel
theorem dL_law_1087 : decode cL_law 1087 = .ok (.ifCond .eq 5, 3) := by decide +kernel
theorem dL_law_1090 : decode cL_law 1090 = .ok (.iconst 0, 1) := by decide +kernel
theorem dL_law_1091 : decode cL_law 1091 = .ok (.ireturn, 1) := by decide +kernel
theorem dL_law_1092 : decode cL_law 1092 = .ok (.goto 3, 3) := by decide +kernel
theorem dL_law_1095 : decode cL_law 1095 = .ok (.iinc 4 6, 3) := by decide +kernel
theorem dL_law_1098 : decode cL_law 1098 = .ok (.goto (-1075), 3) := by decide +kernel
theorem dL_law_1101 : decode cL_law 1101 = .ok (.iconst 1, 1) := by decide +kernel
theorem dL_law_1102 : decode cL_law 1102 = .ok (.ireturn, 1) := by decide +kernel
end
section
/-! MY WORLD: n roles; role k lies at the address adr k and holds E k -/
def wl (adr : Nat → Nat) (n : Nat) (E : Nat → va_E) : va_W := (List.range n).map (fun k => (adr k, E k))
def wd_ad (lo n : Nat) (adr : Nat → Nat) : Prop := (∀ i j, i < n → j < n → adr i = adr j → i = j) ∧ ∀ k, k < n → lo ≤ adr k
theorem wl_len {adr : Nat → Nat} {n : Nat} {E : Nat → va_E} : (wl adr n E).length = n := by simp [wl]
theorem wl_get {adr : Nat → Nat} {n : Nat} {E : Nat → va_E} {k : Nat} (h : k < n) : (wl adr n E)[k]? = some (adr k, E k) := by
  simp [wl, h]
theorem wl_at {adr : Nat → Nat} {n : Nat} {E : Nat → va_E} {k : Nat} {e : va_E} (h : k < n) (he : E k = e) : (wl adr n E)[k]? = some (adr k, e) := by rw [wl_get h, he]
theorem wl_none {adr : Nat → Nat} {n : Nat} {E : Nat → va_E} {k : Nat} (h : ¬ k < n) : (wl adr n E)[k]? = none := by
  simp [wl, h]
theorem wl_inv {adr : Nat → Nat} {n : Nat} {E : Nat → va_E} {k : Nat} {q : Nat × va_E} (h : (wl adr n E)[k]? = some q) : k < n ∧ q = (adr k, E k) := by
  by_cases hk : k < n
  · rw [wl_get hk] at h
    exact ⟨hk, (Option.some.inj h).symm⟩
  · rw [wl_none hk] at h
    cases h
theorem wl_set {adr : Nat → Nat} {n : Nat} {E : Nat → va_E} {k : Nat} {e : va_E} (h : k < n) : (wl adr n E).set k (adr k, e) = wl adr n (va_up E k e) := by
  refine List.ext_getElem? fun j => ?_
  rw [List.getElem?_set]
  by_cases hj : k = j
  · subst hj
    rw [if_pos rfl, if_pos (by rw [wl_len]; exact h), wl_get h, va_up_self]
  · rw [if_neg hj]
    by_cases hn : j < n
    · rw [wl_get hn, wl_get hn, va_up_ne _ _ (fun q => hj q.symm)]
    · rw [wl_none hn, wl_none hn]
theorem wl_D {lo n : Nat} {adr : Nat → Nat} {E : Nat → va_E} (h : wd_ad lo n adr) : va_D (fun q => lo ≤ q) (wl adr n E) := by
  refine ⟨fun i j x y hi hj hxy => ?_, fun k q hk => ?_⟩
  · obtain ⟨h1, rfl⟩ := wl_inv hi
    obtain ⟨h2, rfl⟩ := wl_inv hj
    exact h.1 i j h1 h2 hxy
  · obtain ⟨h1, rfl⟩ := wl_inv hk
    exact h.2 k h1
/-- what a method that writes leaves: the world E', nothing changed below lo -/
def wdQ (D : va_G) (cl : List vw_C) (lo : Nat) (adr : Nat → Nat) (n : Nat) (E : Nat → va_E) (st t : State) : Prop := va_P D cl (wl adr n E) t.heap ∧ va_F (fun q => lo ≤ q) st t
section WDR
variable {p : Program} {l : Launch} {e : Env} {R : Room} {s : State} {m : MethodId} {args : Array Value} {below : List Frame} {meth : Method} {c : Code} {H : Heap} {locs : List Loc} {cells slots : Nat} {Q : State → Prop}
variable {cc : ByteArray} {pc : Nat} {ls : Array Slot} {rest : List Value} {D : va_G} {cl : List vw_C} {tys : List (ClassId × FieldType)} {H0 : Heap} {adr : Nat → Nat} {lo n : Nat} {E : Nat → va_E}
theorem wd_put (hexec : p.tables.exec = Jvm.exec) (hb : c.code = cc) {own ref C : String} {T : u_T} {N ci index : Nat} {Ts : List Cond} (hts : ∀ w ∈ Ts, w.before args s = true) (hin : ∀ w ∈ u_ws C T N, w ∈ Ts) (ty0 : Nat → FieldType) (hty : ∀ k, k < N → parseFieldDescriptor (T k).2.2.1 = some (ty0 k)) (hnm : ∀ a, a < N → ∀ b, b < N → a ≠ b → (T a).2.1 ≠ (T b).2.1) (hown : s.vm.findClass own = some m.cls) (hK : va_K D cl tys s)
    (hAd : wd_ad lo n adr) (hP : va_P D cl (wl adr n E) H) (hS : va_S (fun q => lo ≤ q) H0 H locs) {k0 : Nat} (hk0 : k0 < n) {fs : List Value} (hE : E k0 = .inr (ci, fs)) (hc : cl[ci]? = some (C, T, N)) (k : Nat) (hk : k < N) (hlink : (Cond.fieldLink own index ref (T k).2.1 (T k).2.2.1).before args s = true) (hsame : ∀ x, s.fieldFound? (T k).1 (T k).2.1 (T k).2.2.1 = some x → s.fieldFound? ref (T k).2.1 (T k).2.2.1 = some x) (hfin : (T k).2.2.2 = false) {ty : FieldType} {v : Value} (hd : parseFieldDescriptor (T k).2.2.1 = some ty) (hn : narrow ty v = v) (hfit : fits ty v = true) (hl : k < fs.length)
    (hdg : decode cc pc = .ok (.putfield index, 3)) (kk : ∀ (H1 : Heap) (locs1 : List Loc), va_P D cl (wl adr n (va_up E k0 (.inr (ci, fs.set k v)))) H1 → va_S (fun q => lo ≤ q) H0 H1 locs1 → W p l e R s m args below meth c H1 locs1 cells slots Q (F0 m (pc + 3) ls rest)) : W p l e R s m args below meth c H locs cells slots Q (F0 m pc ls (v :: .ref (adr k0) :: rest)) :=
  va_put hexec hb hts hin ty0 hty hnm hown hK hP (wl_D hAd) hS k0 (wl_at hk0 hE) hc k hk hlink hsame hfin hd hn hfit hl hdg (fun H1 locs1 hP1 _ hS1 => kk H1 locs1 (by rw [wl_set hk0] at hP1; exact hP1) hS1)
theorem wd_iast (hexec : p.tables.exec = Jvm.exec) (hb : c.code = cc) (hK : va_K D cl tys s) (hAd : wd_ad lo n adr) (hP : va_P D cl (wl adr n E) H) (hS : va_S (fun q => lo ≤ q) H0 H locs) (t0 : Nat) {k0 : Nat} (hk0 : k0 < n) {cA : ClassId} {N : Nat} {f : Nat → Int32} (hE : E k0 = .inl (cA, N, .inl f)) (ht : tys[t0]? = some (cA, .int)) {i : Int32} {x : Int32} (hin : vp_in i N) (hdg : decode cc pc = .ok (.iastore, 1))
    (kk : ∀ (H1 : Heap) (locs1 : List Loc), va_P D cl (wl adr n (va_up E k0 (.inl (cA, N, .inl (upd f i.toNatClampNeg x))))) H1 → va_S (fun q => lo ≤ q) H0 H1 locs1 → W p l e R s m args below meth c H1 locs1 cells slots Q (F0 m (pc + 1) ls rest)) : W p l e R s m args below meth c H locs cells slots Q (F0 m pc ls (.int x :: .int i :: .ref (adr k0) :: rest)) :=
  va_iast hexec hb hK hP (wl_D hAd) hS k0 t0 (wl_at hk0 hE) ht hin hdg (fun H1 locs1 hP1 _ hS1 => kk H1 locs1 (by rw [wl_set hk0] at hP1; exact hP1) hS1)
theorem wd_zast (hexec : p.tables.exec = Jvm.exec) (hb : c.code = cc) (hK : va_K D cl tys s) (hAd : wd_ad lo n adr) (hP : va_P D cl (wl adr n E) H) (hS : va_S (fun q => lo ≤ q) H0 H locs) (t0 : Nat) {k0 : Nat} (hk0 : k0 < n) {cA : ClassId} {N : Nat} {f : Nat → Int32} (hE : E k0 = .inl (cA, N, .inl f)) (ht : tys[t0]? = some (cA, .boolean)) {i : Int32} {x : Int32} (hin : vp_in i N) (hdg : decode cc pc = .ok (.bastore, 1))
    (kk : ∀ (H1 : Heap) (locs1 : List Loc), va_P D cl (wl adr n (va_up E k0 (.inl (cA, N, .inl (upd f i.toNatClampNeg (vp_nar .boolean x)))))) H1 → va_S (fun q => lo ≤ q) H0 H1 locs1 → W p l e R s m args below meth c H1 locs1 cells slots Q (F0 m (pc + 1) ls rest)) : W p l e R s m args below meth c H locs cells slots Q (F0 m pc ls (.int x :: .int i :: .ref (adr k0) :: rest)) :=
  va_zast hexec hb hK hP (wl_D hAd) hS k0 t0 (wl_at hk0 hE) ht hin hdg (fun H1 locs1 hP1 _ hS1 => kk H1 locs1 (by rw [wl_set hk0] at hP1; exact hP1) hS1)
end WDR
end
section
/-! CONTEXT: what a contract knows of the tables beside lw_G: words that are no good words, string constants, the two statics of Throwable -/
def kN : List Cond := [(Jvm.Cond.declares ({ cls := "java/lang/RuntimeException", name := "<init>", desc := "(Ljava/lang/String;)V" } : Jvm.MethodName)), (Jvm.Cond.declares ({ cls := "java/lang/Exception", name := "<init>", desc := "(Ljava/lang/String;)V" } : Jvm.MethodName)), (Jvm.Cond.declares ({ cls := "java/lang/Throwable", name := "<init>", desc := "(Ljava/lang/String;)V" } : Jvm.MethodName)), (Jvm.Cond.castable "java/lang/IndexOutOfBoundsException" "java/lang/IndexOutOfBoundsException"), (Jvm.Cond.castable "java/lang/IllegalStateException" "java/lang/IllegalStateException"), (Jvm.Cond.castable "java/lang/IllegalArgumentException" "java/lang/IllegalArgumentException"), (Jvm.Cond.castable "java/lang/UnsupportedOperationException" "java/lang/UnsupportedOperationException"), (Jvm.Cond.methodLinkNest "ToldRows$Tellings" (33 : Nat) ({ cls := "ToldRows", name := "keyIn", desc := "(I)I" } : Jvm.MethodName) "ToldRows"), (Jvm.Cond.methodLinkNest "ToldRows$Tellings" (29 : Nat) ({ cls := "ToldRows", name := "lowBits", desc := "(II)I" } : Jvm.MethodName) "ToldRows")]
def KN (D : va_G) (tys : List (ClassId × FieldType)) (U : State) : Prop := va_K D kcl tys U ∧ ∀ w ∈ kN, va_Nw w U
theorem KN.warm {D : va_G} {tys : List (ClassId × FieldType)} {s U : State} (hW : s.WarmedH U.vm) (h : KN D tys s) : KN D tys U := by
  refine ⟨va_K.moved hW.alike h.1, fun w hw => ?_⟩
  have hz := h.2 w hw
  simp only [kN, List.mem_cons, List.not_mem_nil, or_false] at hw
  rcases hw with rfl | rfl | rfl | rfl | rfl | rfl | rfl | rfl | rfl
  · exact va_Nw.warmD hW hz
  · exact va_Nw.warmD hW hz
  · exact va_Nw.warmD hW hz
  · exact va_Nw.warmC hW hz
  · exact va_Nw.warmC hW hz
  · exact va_Nw.warmC hW hz
  · exact va_Nw.warmC hW hz
  · exact va_Nw.warmM hW hz
  · exact va_Nw.warmM hW hz
def kSt : List (Nat × String) := [(190, "no such teller"), (44, "the teller has all its marks"), (197, "no such time"), (58, "the own time does not rise, or the real one falls"), (192, "no such desk"), (199, "other bits are told"), (204, "no such number"), (94, "no room for one more telling"), (111, "the teller is in its last life"), (115, "the desks are one"), (125, "the batch is so already"), (139, "k is below 0"), (145, "there are not so many tellings"), (194, "no such key"), (157, "no such what"), (163, "the key has no last telling"), (176, "the desk has no such moment"), (178, "the key had no last telling then")]
def KS (sa : Nat → Nat) (U : State) : Prop := ∀ (k : Nat) (q : Nat × String), kSt[k]? = some q → vk_R RX3 q.1 q.2 (sa k) U
def KX (sa : Nat → Nat) (lo : Nat) (U : State) : Prop := KS sa U ∧ vx_Zq Bundle.tN "UNASSIGNED_STACK" Bundle.steD (fun q => lo ≤ q) U U.heap ∧ vx_Zq Bundle.tN "SUPPRESSED_SENTINEL" Bundle.listD (fun q => lo ≤ q) U U.heap
theorem KX.go {sa : Nat → Nat} {lo : Nat} {s U : State} {H : Heap} {locs : List Loc} (hW : s.WarmedH U.vm) (hS : va_S (fun q => lo ≤ q) s.heap H locs) (hU : U.heap = H) (h : KX sa lo s) : KX sa lo U := by
  subst hU
  exact ⟨fun k q hk => vk_R.warm hW (h.1 k q hk), vx_Zq.moved hW.alike (vx_Zq.kept h.2.1 hS.2.1), vx_Zq.moved hW.alike (vx_Zq.kept h.2.2 hS.2.1)⟩
def wdU (D : va_G) (tys : List (ClassId × FieldType)) (adr : Nat → Nat) (n : Nat) (E : Nat → va_E) (U : State) : Prop := va_P D kcl (wl adr n E) U.heap ∧ KN D tys U
def wdX (D : va_G) (tys : List (ClassId × FieldType)) (sa : Nat → Nat) (lo : Nat) (adr : Nat → Nat) (n : Nat) (E : Nat → va_E) (U : State) : Prop := va_P D kcl (wl adr n E) U.heap ∧ KN D tys U ∧ KX sa lo U
theorem wdU_blind {D : va_G} {tys : List (ClassId × FieldType)} {adr : Nat → Nat} {n : Nat} {E : Nat → va_E} {av : List Value} : FrameBlind (va_Pc av (wdU D tys adr n E)) := by
  intro a U g mk h
  obtain ⟨h1, h2, h3⟩ := h
  exact ⟨h1, h2, KN.warm (s := U) (U := U.calling g mk a) (State.WarmedH.refl U) h3⟩
theorem wdX_blind {D : va_G} {tys : List (ClassId × FieldType)} {sa : Nat → Nat} {lo : Nat} {adr : Nat → Nat} {n : Nat} {E : Nat → va_E} {av : List Value} : FrameBlind (va_Pc av (wdX D tys sa lo adr n E)) := by
  intro a U g mk h
  obtain ⟨h1, h2, h3, h4⟩ := h
  exact ⟨h1, h2, KN.warm (s := U) (U := U.calling g mk a) (State.WarmedH.refl U) h3, KX.go (s := U) (U := U.calling g mk a) (H := U.heap) (locs := []) (State.WarmedH.refl U) va_S.rf rfl h4⟩
theorem wdU_pre {D : va_G} {tys : List (ClassId × FieldType)} {adr : Nat → Nat} {n : Nat} {E : Nat → va_E} {av : List Value} {s : State} {H : Heap} (hN : KN D tys s) (hP : va_P D kcl (wl adr n E) H) :
    ∀ U : State, U.heap = H → s.WarmedH U.vm → va_Pc av (wdU D tys adr n E) av.toArray U :=
  fun U hU hW => ⟨rfl, by rw [hU]; exact hP, KN.warm hW hN⟩
theorem wdX_pre {D : va_G} {tys : List (ClassId × FieldType)} {sa : Nat → Nat} {lo : Nat} {adr : Nat → Nat} {n : Nat} {E : Nat → va_E} {av : List Value} {s : State} {H : Heap} {locs : List Loc} (hN : KN D tys s) (hX : KX sa lo s) (hS : va_S (fun q => lo ≤ q) s.heap H locs) (hP : va_P D kcl (wl adr n E) H) :
    ∀ U : State, U.heap = H → s.WarmedH U.vm → va_Pc av (wdX D tys sa lo adr n E) av.toArray U :=
  fun U hU hW => ⟨rfl, by rw [hU]; exact hP, KN.warm hW hN, KX.go hW hS hU hX⟩
theorem wd_recv {D : va_G} {tys : List (ClassId × FieldType)} {adr : Nat → Nat} {n : Nat} {E : Nat → va_E} {s : State} {H : Heap} (hN : KN D tys s) (hP : va_P D kcl (wl adr n E) H) {k ci : Nat} {fs : List Value} {q : vw_C} (hk : k < n) (hE : E k = .inr (ci, fs)) (hc : kcl[ci]? = some q) :
    ∃ cell : Cell, H[adr k]? = some cell ∧ cell.vm.isStatics = false ∧ s.vm.findClass q.1 = some cell.cls := va_recv hN.1 hP hc (wl_at hk hE)
/-- words of a call, out of lw_G -/
theorem gGood {w : Cond} (h : w ∈ lw_G) : w ∈ lw_G ∧ ((w.onTables && w.keeps) = true ∨ ∃ ty, w = .arrayClass ty) := ⟨h, good_of_word (List.mem_filter.mp h).2⟩
theorem gV {own C : String} {idx : Nat} {y : MethodName} {wy : Cond} (h1 : Cond.methodLink own idx y ∈ lw_G) (h2 : Cond.instanceMethod y ∈ lw_G) (h3 : Cond.selects C y y ∈ lw_G) (h4 : Cond.initialized C ∈ lw_G) (h5 : wy ∈ lw_G) : GoodIn lw_G (wsV own idx C y (wy :: lw_G)) := by
  intro w hw
  simp only [wsV, List.cons_append, List.nil_append, List.mem_cons] at hw
  rcases hw with rfl | rfl | rfl | rfl | rfl | h
  · exact gGood h1
  · exact gGood h2
  · exact gGood h3
  · exact gGood h4
  · exact gGood h5
  · exact gGood h
theorem gS {own : String} {idx : Nat} {y : MethodName} {wy : Cond} (h1 : Cond.methodLink own idx y ∈ lw_G) (h2 : Cond.static y ∈ lw_G) (h4 : Cond.initialized own ∈ lw_G) (h5 : wy ∈ lw_G) : GoodIn lw_G (wsS own idx y (wy :: lw_G)) := by
  intro w hw
  simp only [wsS, List.cons_append, List.nil_append, List.mem_cons] at hw
  rcases hw with rfl | rfl | rfl | rfl | h
  · exact gGood h1
  · exact gGood h2
  · exact gGood h4
  · exact gGood h5
  · exact gGood h
theorem gI {wy : Cond} (h5 : wy ∈ lw_G) : GoodIn lw_G (wy :: lw_G) := by
  intro w hw
  rcases List.mem_cons.mp hw with rfl | h
  · exact gGood h5
  · exact gGood h
abbrev kty (cA : Nat → ClassId) : List (ClassId × FieldType) := [(cA 0, .int), (cA 1, .boolean), (cA 2, .object "ToldRows$Teller"), (cA 3, .object "ToldRows$Desk"), (cA 4, .long)]
def bI (b : Bool) : Int32 := if b then 1 else 0
theorem bI_t : bI true = 1 := rfl
theorem bI_f : bI false = 0 := rfl
theorem bI_0 {b : Bool} : bI b = 0 ↔ b = false := by cases b <;> simp [bI]
theorem bI_1 {b : Bool} : ¬ bI b = 0 ↔ b = true := by cases b <;> simp [bI]
theorem bI_nar (b : Bool) : narrow .boolean (.int (bI b)) = .int (bI b) := by cases b <;> rfl
theorem bI_vnar (b : Bool) : vp_nar .boolean (bI b) = bI b := by cases b <;> rfl
section WDN
variable {p : Program} {l : Launch} {e : Env} {R : Room} {s : State} {m : MethodId} {args : Array Value} {below : List Frame} {meth : Method} {c : Code} {H : Heap} {locs : List Loc} {cells slots : Nat} {Q : State → Prop}
variable {cc : ByteArray} {pc : Nat} {ls : Array Slot} {rest : List Value} {D : va_G} {cA : Nat → ClassId} {H0 : Heap} {adr : Nat → Nat} {lo n : Nat} {E : Nat → va_E}
theorem wn_iald (hexec : p.tables.exec = Jvm.exec) (hb : c.code = cc) (hK : va_K D kcl (kty cA) s) (hP : va_P D kcl (wl adr n E) H) {k0 N j : Nat} (hk0 : k0 < n) {f : Nat → Int32} (hE : E k0 = .inl (cA 0, N, .inl f)) (hj : j < N) (hN : N < 2 ^ 31) (hdg : decode cc pc = .ok (.iaload, 1))
    (kk : W p l e R s m args below meth c H locs cells slots Q (F0 m (pc + 1) ls (.int (f j) :: rest))) : W p l e R s m args below meth c H locs cells slots Q (F0 m pc ls (.int (nI j) :: .ref (adr k0) :: rest)) :=
  va_iald hexec hb hK hP k0 0 (wl_at hk0 hE) rfl (vp_in_nI hj hN) hdg (by rw [nI_clamp (by omega)]; exact kk)
theorem wn_zald (hexec : p.tables.exec = Jvm.exec) (hb : c.code = cc) (hK : va_K D kcl (kty cA) s) (hP : va_P D kcl (wl adr n E) H) {k0 N j : Nat} (hk0 : k0 < n) {f : Nat → Int32} (hE : E k0 = .inl (cA 1, N, .inl f)) (hj : j < N) (hN : N < 2 ^ 31) (hdg : decode cc pc = .ok (.baload, 1))
    (kk : W p l e R s m args below meth c H locs cells slots Q (F0 m (pc + 1) ls (.int (f j) :: rest))) : W p l e R s m args below meth c H locs cells slots Q (F0 m pc ls (.int (nI j) :: .ref (adr k0) :: rest)) :=
  va_zald hexec hb hK hP k0 1 (wl_at hk0 hE) rfl (vp_in_nI hj hN) hdg (by rw [nI_clamp (by omega)]; exact kk)
theorem wn_iast (hexec : p.tables.exec = Jvm.exec) (hb : c.code = cc) (hK : va_K D kcl (kty cA) s) (hAd : wd_ad lo n adr) (hP : va_P D kcl (wl adr n E) H) (hS : va_S (fun q => lo ≤ q) H0 H locs) {k0 N j : Nat} (hk0 : k0 < n) {f : Nat → Int32} (hE : E k0 = .inl (cA 0, N, .inl f)) (hj : j < N) (hN : N < 2 ^ 31) {x : Int32} (hdg : decode cc pc = .ok (.iastore, 1))
    (kk : ∀ (H1 : Heap) (locs1 : List Loc), va_P D kcl (wl adr n (va_up E k0 (.inl (cA 0, N, .inl (upd f j x))))) H1 → va_S (fun q => lo ≤ q) H0 H1 locs1 → W p l e R s m args below meth c H1 locs1 cells slots Q (F0 m (pc + 1) ls rest)) : W p l e R s m args below meth c H locs cells slots Q (F0 m pc ls (.int x :: .int (nI j) :: .ref (adr k0) :: rest)) :=
  wd_iast hexec hb hK hAd hP hS 0 hk0 hE rfl (vp_in_nI hj hN) hdg (fun H1 l1 h1 h2 => kk H1 l1 (by rw [nI_clamp (by omega)] at h1; exact h1) h2)
theorem wn_zast (hexec : p.tables.exec = Jvm.exec) (hb : c.code = cc) (hK : va_K D kcl (kty cA) s) (hAd : wd_ad lo n adr) (hP : va_P D kcl (wl adr n E) H) (hS : va_S (fun q => lo ≤ q) H0 H locs) {k0 N j : Nat} (hk0 : k0 < n) {f : Nat → Int32} (hE : E k0 = .inl (cA 1, N, .inl f)) (hj : j < N) (hN : N < 2 ^ 31) {b : Bool} (hdg : decode cc pc = .ok (.bastore, 1))
    (kk : ∀ (H1 : Heap) (locs1 : List Loc), va_P D kcl (wl adr n (va_up E k0 (.inl (cA 1, N, .inl (upd f j (bI b)))))) H1 → va_S (fun q => lo ≤ q) H0 H1 locs1 → W p l e R s m args below meth c H1 locs1 cells slots Q (F0 m (pc + 1) ls rest)) : W p l e R s m args below meth c H locs cells slots Q (F0 m pc ls (.int (bI b) :: .int (nI j) :: .ref (adr k0) :: rest)) :=
  wd_zast hexec hb hK hAd hP hS 1 hk0 hE rfl (vp_in_nI hj hN) hdg (fun H1 l1 h1 h2 => kk H1 l1 (by rw [nI_clamp (by omega), bI_vnar] at h1; exact h1) h2)
/-- calls of methods that only read -/
theorem wn_rV {C own : String} {y : MethodName} {bytes : ByteArray} {maxL nL na index k ci N : Nat} {T : u_T} {ret : Option FieldType} {wy : Cond} {rm : Room} {As : List Value} {r : Int32} {st0 : List Value} {fs : List Value}
    (hx : p.tables.exec = Jvm.exec) (hb : c.code = cc) (hml : c.maxLocals = nL) (hown : s.vm.findClass own = some m.cls) (hG : ∀ w ∈ lw_G, w.before args s = true) (hN : KN D (kty cA) s) (hP : va_P D kcl (wl adr n E) H)
    (hM : Met l y (wy :: lw_G) rm (va_Pc (.ref (adr k) :: As) (wdU D (kty cA) adr n E)) (QcRead r) 0 0 (fun _ => False)) (cw : CallW R s args own C index y bytes maxL ret (wy :: lw_G) rm 0 0 na)
    (hk : k < n) (hE : E k = .inr (ci, fs)) (hc : kcl[ci]? = some (C, T, N)) (hn : As.length = na) (hsize : ls.size = nL) (hstack : st0 = As.reverse ++ .ref (adr k) :: rest) (hW : (rest.map fun v => v.category).sum ≤ 8) (hdg : decode cc pc = .ok (.invokevirtual index, 3)) (hf : cells ≤ R.cells ∧ slots ≤ R.slots)
    (kk : W p l e R s m args below meth c H locs cells slots Q (F0 m (pc + 3) ls (.int r :: rest))) : W p l e R s m args below meth c H locs cells slots Q (F0 m pc ls st0) := by
  subst hstack
  exact W.callR (W.runV (As := As) (rest := rest) (b := adr k) ⟨hx, hb, hml, hown, hG⟩ hM cw ⟨wdU_blind, wd_recv hN hP hk hE hc, wdU_pre hN hP⟩ rfl hn hsize rfl (lv_room hW) hdg hf) kk
theorem wn_rS {own : String} {y : MethodName} {bytes : ByteArray} {maxL nL na index : Nat} {ret : Option FieldType} {wy : Cond} {rm : Room} {As : List Value} {r : Int32} {st0 : List Value}
    (hx : p.tables.exec = Jvm.exec) (hb : c.code = cc) (hml : c.maxLocals = nL) (hown : s.vm.findClass own = some m.cls) (hG : ∀ w ∈ lw_G, w.before args s = true)
    (hM : Met l y (wy :: lw_G) rm (va_Pc As (fun _ => True)) (QcRead r) 0 0 (fun _ => False)) (cw : CallB R s args own index y bytes maxL ret (wy :: lw_G) rm 0 0 na ∧ (Cond.static y).before args s = true)
    (hn : As.length = na) (hsize : ls.size = nL) (hstack : st0 = As.reverse ++ rest) (hW : (rest.map fun v => v.category).sum ≤ 8) (hdg : decode cc pc = .ok (.invokestatic index, 3)) (hf : cells ≤ R.cells ∧ slots ≤ R.slots)
    (kk : W p l e R s m args below meth c H locs cells slots Q (F0 m (pc + 3) ls (.int r :: rest))) : W p l e R s m args below meth c H locs cells slots Q (F0 m pc ls st0) := by
  subst hstack
  exact W.callR (W.runS (As := As) (rest := rest) ⟨hx, hb, hml, hown, hG⟩ hM cw ⟨fun a U g mk h => ⟨h.1, trivial⟩, fun U _ _ => ⟨rfl, trivial⟩⟩ rfl hn hsize rfl (lv_room hW) hdg hf) kk
end WDN
end
section
theorem inG_X0 : ∀ w ∈ u_ws RX0 TX0 5, w ∈ lw_G := by decide +kernel
theorem inG_X1 : ∀ w ∈ u_ws RX1 TX1 4, w ∈ lw_G := by decide +kernel
theorem inG_X2 : ∀ w ∈ u_ws RX2 TX2 5, w ∈ lw_G := by decide +kernel
theorem inG_X3 : ∀ w ∈ u_ws RX3 TX3 4, w ∈ lw_G := by decide +kernel
theorem inG_X4 : ∀ w ∈ u_ws RX4 TX4 16, w ∈ lw_G := by decide +kernel
theorem gp_X3_hasRival : Cond.selects RX3 yX3_hasRival yX3_hasRival ∈ lw_G := List.mem_filter.mpr ⟨List.mem_append_left _ (List.mem_of_getElem? (i := 1) (by decide +kernel)), by decide +kernel⟩
theorem gp_X3_beginsConflict : Cond.selects RX3 yX3_beginsConflict yX3_beginsConflict ∈ lw_G := List.mem_filter.mpr ⟨List.mem_append_left _ (List.mem_of_getElem? (i := 2) (by decide +kernel)), by decide +kernel⟩
theorem gp_X3_findLast : Cond.selects RX3 yX3_findLast yX3_findLast ∈ lw_G := List.mem_filter.mpr ⟨List.mem_append_left _ (List.mem_of_getElem? (i := 3) (by decide +kernel)), by decide +kernel⟩
theorem gp_X3_isLater : Cond.selects RX3 yX3_isLater yX3_isLater ∈ lw_G := List.mem_filter.mpr ⟨List.mem_append_left _ (List.mem_of_getElem? (i := 4) (by decide +kernel)), by decide +kernel⟩
theorem gp_X3_realTimeOf : Cond.selects RX3 yX3_realTimeOf yX3_realTimeOf ∈ lw_G := List.mem_filter.mpr ⟨List.mem_append_left _ (List.mem_of_getElem? (i := 5) (by decide +kernel)), by decide +kernel⟩
theorem gp_X3_countsBy : Cond.selects RX3 yX3_countsBy yX3_countsBy ∈ lw_G := List.mem_filter.mpr ⟨List.mem_append_left _ (List.mem_of_getElem? (i := 6) (by decide +kernel)), by decide +kernel⟩
theorem gp_X3_hear : Cond.selects RX3 yX3_hear yX3_hear ∈ lw_G := List.mem_filter.mpr ⟨List.mem_append_left _ (List.mem_of_getElem? (i := 7) (by decide +kernel)), by decide +kernel⟩
theorem gp_X4_throwing : Cond.selects RX4 yX4_throwing yX4_throwing ∈ lw_G := List.mem_filter.mpr ⟨List.mem_append_left _ (List.mem_of_getElem? (i := 8) (by decide +kernel)), by decide +kernel⟩
theorem gp_X4_realOf : Cond.selects RX4 yX4_realOf yX4_realOf ∈ lw_G := List.mem_filter.mpr ⟨List.mem_append_left _ (List.mem_of_getElem? (i := 9) (by decide +kernel)), by decide +kernel⟩
theorem gp_X4_find : Cond.selects RX4 yX4_find yX4_find ∈ lw_G := List.mem_filter.mpr ⟨List.mem_append_left _ (List.mem_of_getElem? (i := 10) (by decide +kernel)), by decide +kernel⟩
theorem gp_X4_has : Cond.selects RX4 yX4_has yX4_has ∈ lw_G := List.mem_filter.mpr ⟨List.mem_append_left _ (List.mem_of_getElem? (i := 11) (by decide +kernel)), by decide +kernel⟩
theorem gp_X4_areRivals : Cond.selects RX4 yX4_areRivals yX4_areRivals ∈ lw_G := List.mem_filter.mpr ⟨List.mem_append_left _ (List.mem_of_getElem? (i := 12) (by decide +kernel)), by decide +kernel⟩
theorem gp_X4_comes : Cond.selects RX4 yX4_comes yX4_comes ∈ lw_G := List.mem_filter.mpr ⟨List.mem_append_left _ (List.mem_of_getElem? (i := 13) (by decide +kernel)), by decide +kernel⟩
theorem gp_X4_sees : Cond.selects RX4 yX4_sees yX4_sees ∈ lw_G := List.mem_filter.mpr ⟨List.mem_append_left _ (List.mem_of_getElem? (i := 14) (by decide +kernel)), by decide +kernel⟩
theorem gp_X4_lastOf : Cond.selects RX4 yX4_lastOf yX4_lastOf ∈ lw_G := List.mem_filter.mpr ⟨List.mem_append_left _ (List.mem_of_getElem? (i := 15) (by decide +kernel)), by decide +kernel⟩
theorem gp_X4_counts : Cond.selects RX4 yX4_counts yX4_counts ∈ lw_G := List.mem_filter.mpr ⟨List.mem_append_left _ (List.mem_of_getElem? (i := 16) (by decide +kernel)), by decide +kernel⟩
theorem gp_X4_isLater : Cond.selects RX4 yX4_isLater yX4_isLater ∈ lw_G := List.mem_filter.mpr ⟨List.mem_append_left _ (List.mem_of_getElem? (i := 17) (by decide +kernel)), by decide +kernel⟩
theorem gp_X4_hasNumber : Cond.selects RX4 yX4_hasNumber yX4_hasNumber ∈ lw_G := List.mem_filter.mpr ⟨List.mem_append_left _ (List.mem_of_getElem? (i := 18) (by decide +kernel)), by decide +kernel⟩
theorem kN_keyIn : Cond.methodLinkNest RX2 33 yX3_keyIn "ToldRows" ∈ kN := by decide +kernel
theorem kN_lowBits : Cond.methodLinkNest RX2 29 yX3_lowBits "ToldRows" ∈ kN := by decide +kernel
section WDM
variable {p : Program} {l : Launch} {e : Env} {R : Room} {s : State} {m : MethodId} {args : Array Value} {below : List Frame} {meth : Method} {c : Code} {H : Heap} {locs : List Loc} {cells slots : Nat} {Q : State → Prop}
variable {cc : ByteArray} {pc : Nat} {ls : Array Slot} {rest : List Value}
theorem wn_rSN {own host : String} {y : MethodName} {bytes : ByteArray} {maxL nL na index : Nat} {ret : Option FieldType} {wy : Cond} {rm : Room} {As : List Value} {r : Int32} {st0 : List Value}
    (hx : p.tables.exec = Jvm.exec) (hb : c.code = cc) (hml : c.maxLocals = nL) (hown : s.vm.findClass own = some m.cls) (hG : ∀ w ∈ lw_G, w.before args s = true)
    (hM : Met l y (wy :: lw_G) rm (va_Pc As (fun _ => True)) (QcRead r) 0 0 (fun _ => False)) (cw : va_CN R s args own index y host bytes maxL ret (wy :: lw_G) rm 0 0 na ∧ (Cond.static y).before args s = true ∧ True)
    (hn : As.length = na) (hsize : ls.size = nL) (hstack : st0 = As.reverse ++ rest) (hW : (rest.map fun v => v.category).sum ≤ 8) (hdg : decode cc pc = .ok (.invokestatic index, 3)) (hf : cells ≤ R.cells ∧ slots ≤ R.slots)
    (kk : W p l e R s m args below meth c H locs cells slots Q (F0 m (pc + 3) ls (.int r :: rest))) : W p l e R s m args below meth c H locs cells slots Q (F0 m pc ls st0) := by
  subst hstack
  have hr := va_runSN (p := p) (l := l) (e := e) (R := R) (s := s) (m := m) (args := args) (below := below) (meth := meth) (c := c) (H := H) (locs := locs) (cells := cells) (slots := slots) (g := F0 m pc ls (As.reverse ++ rest)) (As := As) (rest := rest) ⟨hx, hb, hml, hown, hG⟩ hM cw ⟨fun a U g mk h => ⟨h.1, trivial⟩, fun U _ _ => ⟨rfl, trivial⟩⟩ rfl hn hsize rfl (lv_room hW) hdg hf
  refine W.callR (a := As.toArray) (r := r) (rest := rest) (fun T hT X => ?_) kk
  obtain ⟨v, st₀, t, T', L, h0, X', hL, e1, e2, hq, st⟩ := hr T hT X
  exact ⟨v, st₀, t, T', L, h0, X', hL, e1, hq, st⟩
end WDM
theorem nI_or {a b k : Nat} (hb : b < 2 ^ k) : nI (a * 2 ^ k) ||| nI b = nI (a * 2 ^ k + b) := by
  have h : a * 2 ^ k ||| b = a * 2 ^ k + b := by
    have := Nat.shiftLeft_add_eq_or_of_lt hb a
    rw [Nat.shiftLeft_eq] at this
    exact this.symm
  rw [← h]
  apply Int32.toBitVec_inj.mp
  show BitVec.ofNat 32 (a * 2 ^ k) ||| BitVec.ofNat 32 b = BitVec.ofNat 32 (a * 2 ^ k ||| b)
  rw [BitVec.ofNat_or]
end
section
set_option maxHeartbeats 4000000 in
set_option maxRecDepth 100000 in
/-- Desk.has -/
theorem cX0_has_r {l : Launch} {D : va_G} {cA : Nat → ClassId} {adr : Nat → Nat} {n : Nat} {E : Nat → va_E} {k : Nat} {mo : Nat → Int32} {mt sn wt : Int32} {ib : Bool} (hk : k + 1 < n) (hE0 : E k = .inr (0, [.ref (adr (k + 1)), .int mt, .int sn, .int wt, .int (bI ib)])) (hE1 : E (k + 1) = .inl (cA 0, 120, .inl mo)) {j : Nat} (hj : j < 120) : Met l yX0_has (.code yX0_has cX0_has 2 (some .boolean) :: lw_G) ({ frames := 0, cells := 0, slots := 0, locals := 0 } : Room) (va_Pc [.ref (adr k), .int (nI j)] (wdU D (kty cA) adr n E)) (QcRead (bI (!decide (mo j = 0)))) 0 0 (fun _ => False) := by
  refine Met.ofW (cc := cX0_has) (maxL := 2) (ret := (some .boolean)) (by decide) rfl ?_
  intro p e s m args below meth c s₁ B hml hv
  obtain ⟨rfl, hP, hN⟩ := hv
  have hx := B.exec
  have hb := B.bytes
  have hr := B.returns
  have hG : ∀ w ∈ lw_G, w.before _ s = true := fun w h => atoms_spec (ws := _ :: lw_G) B.pre w (List.mem_cons_of_mem _ h)
  have hown : s.vm.findClass RX0 = some m.cls := findClass_of_methodNamed B.named
  have hlocks := B.notSynchronized
  have hK := hN.1
  have hl := lv_entry ([.ref (adr k), .int (nI j)]) (n := 2) (Nat.le_of_ble_eq_true rfl)
  rw [lg_entry_eq]
  generalize (lg_sl ([.ref (adr k), .int (nI j)]) ++ List.replicate (2 - (lg_sl ([.ref (adr k), .int (nI j)])).length) Slot.unset).toArray = ls at hl ⊢
  have hl : lv_has ls 2 [(0, .ref (adr k)), (1, .int (nI j))] := hl
  refine lv_aload_n hx hb dX0_has_0 rfl (lv_at hl 0 rfl) ?_
  refine va_get (D := D) (ci := 0) (v := .ref (adr (k + 1))) (C := RX0) (T := TX0) (N := 5) hx hb hG inG_X0 hown hK hP k (wl_at (by omega) hE0) rfl 0 (by decide) (hG _ g_79) (fun _ h9 => h9) rfl dX0_has_1 ?_
  refine lv_iload_n hx hb dX0_has_4 rfl (lv_at hl 1 rfl) ?_
  refine wn_iald (j := j) hx hb hK hP (by omega) hE1 (by omega) (by decide) dX0_has_5 ?_
  refine lv_if_eq (tgt := 13) hx hb dX0_has_6 (by decide) (fun c6 => ?_) (fun c6 => ?_)
  · refine lv_iconst (v := 0) hx hb dX0_has_13 (by decide) ?_
    have h9 : (0 : Int32) = bI (!decide (mo j = 0)) := by simp [bI, c6]
    exact W.zret (v := 0) hx hb hr (by first | rfl | exact bI_nar _) (fun t ht _ => ⟨congrArg (fun z => Outcome.returned (some (Value.int z))) h9, ht⟩) (fun _ h => nomatch h) dX0_has_14
  · refine lv_iconst (v := 1) hx hb dX0_has_9 (by decide) ?_
    refine lv_goto (tgt := 14) hx hb dX0_has_10 (by decide) ?_
    have h9 : (1 : Int32) = bI (!decide (mo j = 0)) := by simp [bI, c6]
    exact W.zret (v := 1) hx hb hr (by first | rfl | exact bI_nar _) (fun t ht _ => ⟨congrArg (fun z => Outcome.returned (some (Value.int z))) h9, ht⟩) (fun _ h => nomatch h) dX0_has_14

set_option maxHeartbeats 4000000 in
set_option maxRecDepth 100000 in
/-- Desk.hasSeen -/
theorem cX0_hasSeen_r {l : Launch} {D : va_G} {cA : Nat → ClassId} {adr : Nat → Nat} {n : Nat} {E : Nat → va_E} {k : Nat} {mo : Nat → Int32} {mt sn wt : Int32} {ib : Bool} (hk : k + 1 < n) (hE0 : E k = .inr (0, [.ref (adr (k + 1)), .int mt, .int sn, .int wt, .int (bI ib)])) (hE1 : E (k + 1) = .inl (cA 0, 120, .inl mo)) {j : Nat} (hj : j < 120) : Met l yX0_hasSeen (.code yX0_hasSeen cX0_hasSeen 2 (some .boolean) :: lw_G) ({ frames := 0, cells := 0, slots := 0, locals := 0 } : Room) (va_Pc [.ref (adr k), .int (nI j)] (wdU D (kty cA) adr n E)) (QcRead (bI (decide (0 < mo j)))) 0 0 (fun _ => False) := by
  refine Met.ofW (cc := cX0_hasSeen) (maxL := 2) (ret := (some .boolean)) (by decide) rfl ?_
  intro p e s m args below meth c s₁ B hml hv
  obtain ⟨rfl, hP, hN⟩ := hv
  have hx := B.exec
  have hb := B.bytes
  have hr := B.returns
  have hG : ∀ w ∈ lw_G, w.before _ s = true := fun w h => atoms_spec (ws := _ :: lw_G) B.pre w (List.mem_cons_of_mem _ h)
  have hown : s.vm.findClass RX0 = some m.cls := findClass_of_methodNamed B.named
  have hlocks := B.notSynchronized
  have hK := hN.1
  have hl := lv_entry ([.ref (adr k), .int (nI j)]) (n := 2) (Nat.le_of_ble_eq_true rfl)
  rw [lg_entry_eq]
  generalize (lg_sl ([.ref (adr k), .int (nI j)]) ++ List.replicate (2 - (lg_sl ([.ref (adr k), .int (nI j)])).length) Slot.unset).toArray = ls at hl ⊢
  have hl : lv_has ls 2 [(0, .ref (adr k)), (1, .int (nI j))] := hl
  refine lv_aload_n hx hb dX0_hasSeen_0 rfl (lv_at hl 0 rfl) ?_
  refine va_get (D := D) (ci := 0) (v := .ref (adr (k + 1))) (C := RX0) (T := TX0) (N := 5) hx hb hG inG_X0 hown hK hP k (wl_at (by omega) hE0) rfl 0 (by decide) (hG _ g_79) (fun _ h9 => h9) rfl dX0_hasSeen_1 ?_
  refine lv_iload_n hx hb dX0_hasSeen_4 rfl (lv_at hl 1 rfl) ?_
  refine wn_iald (j := j) hx hb hK hP (by omega) hE1 (by omega) (by decide) dX0_hasSeen_5 ?_
  refine lv_if_le (tgt := 13) hx hb dX0_hasSeen_6 (by decide) (fun c6 => ?_) (fun c6 => ?_)
  · refine lv_iconst (v := 0) hx hb dX0_hasSeen_13 (by decide) ?_
    have h9 : (0 : Int32) = bI (decide (0 < mo j)) := by rw [show decide (0 < mo j) = false from by simpa using c6]; rfl
    exact W.zret (v := 0) hx hb hr (by first | rfl | exact bI_nar _) (fun t ht _ => ⟨congrArg (fun z => Outcome.returned (some (Value.int z))) h9, ht⟩) (fun _ h => nomatch h) dX0_hasSeen_14
  · refine lv_iconst (v := 1) hx hb dX0_hasSeen_9 (by decide) ?_
    refine lv_goto (tgt := 14) hx hb dX0_hasSeen_10 (by decide) ?_
    have h9 : (1 : Int32) = bI (decide (0 < mo j)) := by rw [show decide (0 < mo j) = true from by simpa using c6]; rfl
    exact W.zret (v := 1) hx hb hr (by first | rfl | exact bI_nar _) (fun t ht _ => ⟨congrArg (fun z => Outcome.returned (some (Value.int z))) h9, ht⟩) (fun _ h => nomatch h) dX0_hasSeen_14

set_option maxHeartbeats 4000000 in
set_option maxRecDepth 100000 in
/-- lowBits -/
theorem cX3_lowBits_r {l : Launch} (a b : Int32) : Met l yX3_lowBits (.code yX3_lowBits cX3_lowBits 2 (some .int) :: lw_G) ({ frames := 0, cells := 0, slots := 0, locals := 0 } : Room) (va_Pc [.int a, .int b] (fun _ => True)) (QcRead (a &&& ((1 <<< (b &&& 31)) - 1))) 0 0 (fun _ => False) := by
  refine Met.ofW (cc := cX3_lowBits) (maxL := 2) (ret := (some .int)) (by decide) rfl ?_
  intro p e s m args below meth c s₁ B hml hv
  obtain ⟨rfl, -⟩ := hv
  have hx := B.exec
  have hb := B.bytes
  have hr := B.returns
  have hG : ∀ w ∈ lw_G, w.before _ s = true := fun w h => atoms_spec (ws := _ :: lw_G) B.pre w (List.mem_cons_of_mem _ h)
  have hown : s.vm.findClass RX3 = some m.cls := findClass_of_methodNamed B.named
  have hlocks := B.notSynchronized
  have hl := lv_entry ([.int a, .int b]) (n := 2) (Nat.le_of_ble_eq_true rfl)
  rw [lg_entry_eq]
  generalize (lg_sl ([.int a, .int b]) ++ List.replicate (2 - (lg_sl ([.int a, .int b])).length) Slot.unset).toArray = ls at hl ⊢
  have hl : lv_has ls 2 [(0, .int a), (1, .int b)] := hl
  refine lv_iload_n hx hb dX3_lowBits_0 rfl (lv_at hl 0 rfl) ?_
  refine lv_iconst (v := 1) hx hb dX3_lowBits_1 (by decide) ?_
  refine lv_iload_n hx hb dX3_lowBits_2 rfl (lv_at hl 1 rfl) ?_
  refine lv_ishl hx hb dX3_lowBits_3 ?_
  refine lv_iconst (v := 1) hx hb dX3_lowBits_4 (by decide) ?_
  refine lv_isub hx hb dX3_lowBits_5 ?_
  refine lv_iand hx hb dX3_lowBits_6 ?_
  have h9 : (a &&& ((1 <<< (b &&& 31)) - 1) : Int32) = a &&& ((1 <<< (b &&& 31)) - 1) := rfl
  exact W.iret (v := a &&& ((1 <<< (b &&& 31)) - 1)) hx hb hr (fun t ht _ => ⟨congrArg (fun z => Outcome.returned (some (Value.int z))) h9, ht⟩) (fun _ h => nomatch h) dX3_lowBits_7

set_option maxHeartbeats 4000000 in
set_option maxRecDepth 100000 in
theorem cX3_timeIn_r {l : Launch} (a : Int32) : Met l yX3_timeIn (.code yX3_timeIn cX3_timeIn 1 (some .int) :: lw_G) ({ frames := 1, cells := 0, slots := 0, locals := 21 } : Room) (va_Pc [.int a] (fun _ => True)) (QcRead (a &&& 1048575)) 0 0 (fun _ => False) := by
  refine Met.ofW (cc := cX3_timeIn) (maxL := 1) (ret := (some .int)) (by decide) rfl ?_
  intro p e s m args below meth c s₁ B hml hv
  obtain ⟨rfl, -⟩ := hv
  have hx := B.exec
  have hb := B.bytes
  have hr := B.returns
  have hG : ∀ w ∈ lw_G, w.before _ s = true := fun w h => atoms_spec (ws := _ :: lw_G) B.pre w (List.mem_cons_of_mem _ h)
  have hown : s.vm.findClass RX3 = some m.cls := findClass_of_methodNamed B.named
  have hlocks := B.notSynchronized
  have hl := lv_entry ([.int a]) (n := 1) (Nat.le_of_ble_eq_true rfl)
  rw [lg_entry_eq]
  generalize (lg_sl ([.int a]) ++ List.replicate (1 - (lg_sl ([.int a])).length) Slot.unset).toArray = ls at hl ⊢
  have hl : lv_has ls 1 [(0, .int a)] := hl
  refine lv_iload_n hx hb dX3_timeIn_0 rfl (lv_at hl 0 rfl) ?_
  refine lv_bipush (v := 20) hx hb dX3_timeIn_1 (by decide) ?_
  refine wn_rS (rest := []) hx hb hml hown hG (cX3_lowBits_r _ _) (cwS 2 hG (gS g_277 g_278 g_1 g_279) rfl rfl rfl (by decide +kernel) ⟨Nat.le_of_ble_eq_true rfl, Nat.le_of_ble_eq_true rfl⟩) rfl hl.1 rfl (Nat.le_of_ble_eq_true rfl) dX3_timeIn_3 ⟨Nat.zero_le _, Nat.zero_le _⟩ ?_
  have h9 : (a &&& ((1 <<< ((20 : Int32) &&& 31)) - 1) : Int32) = a &&& 1048575 := by rw [show ((1 : Int32) <<< ((20 : Int32) &&& 31)) - 1 = 1048575 from by decide]
  exact W.iret (v := a &&& ((1 <<< ((20 : Int32) &&& 31)) - 1)) hx hb hr (fun t ht _ => ⟨congrArg (fun z => Outcome.returned (some (Value.int z))) h9, ht⟩) (fun _ h => nomatch h) dX3_timeIn_6

set_option maxHeartbeats 4000000 in
set_option maxRecDepth 100000 in
theorem cX3_keyIn_r {l : Launch} (a : Int32) : Met l yX3_keyIn (.code yX3_keyIn cX3_keyIn 1 (some .int) :: lw_G) ({ frames := 1, cells := 0, slots := 0, locals := 21 } : Room) (va_Pc [.int a] (fun _ => True)) (QcRead ((a >>> ((20 : Int32) &&& 31)) &&& 7)) 0 0 (fun _ => False) := by
  refine Met.ofW (cc := cX3_keyIn) (maxL := 1) (ret := (some .int)) (by decide) rfl ?_
  intro p e s m args below meth c s₁ B hml hv
  obtain ⟨rfl, -⟩ := hv
  have hx := B.exec
  have hb := B.bytes
  have hr := B.returns
  have hG : ∀ w ∈ lw_G, w.before _ s = true := fun w h => atoms_spec (ws := _ :: lw_G) B.pre w (List.mem_cons_of_mem _ h)
  have hown : s.vm.findClass RX3 = some m.cls := findClass_of_methodNamed B.named
  have hlocks := B.notSynchronized
  have hl := lv_entry ([.int a]) (n := 1) (Nat.le_of_ble_eq_true rfl)
  rw [lg_entry_eq]
  generalize (lg_sl ([.int a]) ++ List.replicate (1 - (lg_sl ([.int a])).length) Slot.unset).toArray = ls at hl ⊢
  have hl : lv_has ls 1 [(0, .int a)] := hl
  refine lv_iload_n hx hb dX3_keyIn_0 rfl (lv_at hl 0 rfl) ?_
  refine lv_bipush (v := 20) hx hb dX3_keyIn_1 (by decide) ?_
  refine lv_ishr hx hb dX3_keyIn_3 ?_
  refine lv_iconst (v := 3) hx hb dX3_keyIn_4 (by decide) ?_
  refine wn_rS (rest := []) hx hb hml hown hG (cX3_lowBits_r _ _) (cwS 2 hG (gS g_277 g_278 g_1 g_279) rfl rfl rfl (by decide +kernel) ⟨Nat.le_of_ble_eq_true rfl, Nat.le_of_ble_eq_true rfl⟩) rfl hl.1 rfl (Nat.le_of_ble_eq_true rfl) dX3_keyIn_5 ⟨Nat.zero_le _, Nat.zero_le _⟩ ?_
  have h9 : ((a >>> (20 &&& 31)) &&& ((1 <<< ((3 : Int32) &&& 31)) - 1) : Int32) = (a >>> ((20 : Int32) &&& 31)) &&& 7 := by rw [show ((1 : Int32) <<< ((3 : Int32) &&& 31)) - 1 = 7 from by decide]
  exact W.iret (v := (a >>> (20 &&& 31)) &&& ((1 <<< ((3 : Int32) &&& 31)) - 1)) hx hb hr (fun t ht _ => ⟨congrArg (fun z => Outcome.returned (some (Value.int z))) h9, ht⟩) (fun _ h => nomatch h) dX3_keyIn_8

set_option maxHeartbeats 4000000 in
set_option maxRecDepth 100000 in
theorem cX3_numberIn_r {l : Launch} (a : Int32) : Met l yX3_numberIn (.code yX3_numberIn cX3_numberIn 1 (some .int) :: lw_G) ({ frames := 1, cells := 0, slots := 0, locals := 21 } : Room) (va_Pc [.int a] (fun _ => True)) (QcRead ((a >>> ((23 : Int32) &&& 31)) &&& 127)) 0 0 (fun _ => False) := by
  refine Met.ofW (cc := cX3_numberIn) (maxL := 1) (ret := (some .int)) (by decide) rfl ?_
  intro p e s m args below meth c s₁ B hml hv
  obtain ⟨rfl, -⟩ := hv
  have hx := B.exec
  have hb := B.bytes
  have hr := B.returns
  have hG : ∀ w ∈ lw_G, w.before _ s = true := fun w h => atoms_spec (ws := _ :: lw_G) B.pre w (List.mem_cons_of_mem _ h)
  have hown : s.vm.findClass RX3 = some m.cls := findClass_of_methodNamed B.named
  have hlocks := B.notSynchronized
  have hl := lv_entry ([.int a]) (n := 1) (Nat.le_of_ble_eq_true rfl)
  rw [lg_entry_eq]
  generalize (lg_sl ([.int a]) ++ List.replicate (1 - (lg_sl ([.int a])).length) Slot.unset).toArray = ls at hl ⊢
  have hl : lv_has ls 1 [(0, .int a)] := hl
  refine lv_iload_n hx hb dX3_numberIn_0 rfl (lv_at hl 0 rfl) ?_
  refine lv_bipush (v := 23) hx hb dX3_numberIn_1 (by decide) ?_
  refine lv_ishr hx hb dX3_numberIn_3 ?_
  refine lv_bipush (v := 7) hx hb dX3_numberIn_4 (by decide) ?_
  refine wn_rS (rest := []) hx hb hml hown hG (cX3_lowBits_r _ _) (cwS 2 hG (gS g_277 g_278 g_1 g_279) rfl rfl rfl (by decide +kernel) ⟨Nat.le_of_ble_eq_true rfl, Nat.le_of_ble_eq_true rfl⟩) rfl hl.1 rfl (Nat.le_of_ble_eq_true rfl) dX3_numberIn_6 ⟨Nat.zero_le _, Nat.zero_le _⟩ ?_
  have h9 : ((a >>> (23 &&& 31)) &&& ((1 <<< ((7 : Int32) &&& 31)) - 1) : Int32) = (a >>> ((23 : Int32) &&& 31)) &&& 127 := by rw [show ((1 : Int32) <<< ((7 : Int32) &&& 31)) - 1 = 127 from by decide]
  exact W.iret (v := (a >>> (23 &&& 31)) &&& ((1 <<< ((7 : Int32) &&& 31)) - 1)) hx hb hr (fun t ht _ => ⟨congrArg (fun z => Outcome.returned (some (Value.int z))) h9, ht⟩) (fun _ h => nomatch h) dX3_numberIn_9

set_option maxHeartbeats 4000000 in
set_option maxRecDepth 100000 in
/-- teller, life, number in one -/
theorem cX3_nameOf_r {l : Launch} {t f u : Nat} (ht : t < 2 ^ 20) (hf : f < 4) (hu : u < 128) : Met l yX3_nameOf (.code yX3_nameOf cX3_nameOf 3 (some .int) :: lw_G) ({ frames := 0, cells := 0, slots := 0, locals := 0 } : Room) (va_Pc [.int (nI t), .int (nI f), .int (nI u)] (fun _ => True)) (QcRead (nI (t * 512 + f * 128 + u))) 0 0 (fun _ => False) := by
  refine Met.ofW (cc := cX3_nameOf) (maxL := 3) (ret := (some .int)) (by decide) rfl ?_
  intro p e s m args below meth c s₁ B hml hv
  obtain ⟨rfl, -⟩ := hv
  have hx := B.exec
  have hb := B.bytes
  have hr := B.returns
  have hG : ∀ w ∈ lw_G, w.before _ s = true := fun w h => atoms_spec (ws := _ :: lw_G) B.pre w (List.mem_cons_of_mem _ h)
  have hown : s.vm.findClass RX3 = some m.cls := findClass_of_methodNamed B.named
  have hlocks := B.notSynchronized
  have hl := lv_entry ([.int (nI t), .int (nI f), .int (nI u)]) (n := 3) (Nat.le_of_ble_eq_true rfl)
  rw [lg_entry_eq]
  generalize (lg_sl ([.int (nI t), .int (nI f), .int (nI u)]) ++ List.replicate (3 - (lg_sl ([.int (nI t), .int (nI f), .int (nI u)])).length) Slot.unset).toArray = ls at hl ⊢
  have hl : lv_has ls 3 [(0, .int (nI t)), (1, .int (nI f)), (2, .int (nI u))] := hl
  refine lv_iload_n hx hb dX3_nameOf_0 rfl (lv_at hl 0 rfl) ?_
  refine lv_iconst (v := 2) hx hb dX3_nameOf_1 (by decide) ?_
  refine lv_ishl hx hb dX3_nameOf_2 ?_
  refine lv_iload_n hx hb dX3_nameOf_3 rfl (lv_at hl 1 rfl) ?_
  refine lv_ior hx hb dX3_nameOf_4 ?_
  refine lv_bipush (v := 7) hx hb dX3_nameOf_5 (by decide) ?_
  refine lv_ishl hx hb dX3_nameOf_7 ?_
  refine lv_iload_n hx hb dX3_nameOf_8 rfl (lv_at hl 2 rfl) ?_
  refine lv_ior hx hb dX3_nameOf_9 ?_
  have h9 : (((((nI t) <<< (2 &&& 31)) ||| (nI f)) <<< (7 &&& 31)) ||| (nI u) : Int32) = nI (t * 512 + f * 128 + u) := by rw [show nI t <<< ((2 : Int32) &&& 31) = nI (t * 2 ^ 2) from pk_shlN _ 2 (by decide) (by omega), nI_or (by omega), show nI (t * 2 ^ 2 + f) <<< ((7 : Int32) &&& 31) = nI ((t * 2 ^ 2 + f) * 2 ^ 7) from pk_shlN _ 7 (by decide) (by omega), nI_or (by omega)]; congr 1; omega
  exact W.iret (v := ((((nI t) <<< (2 &&& 31)) ||| (nI f)) <<< (7 &&& 31)) ||| (nI u)) hx hb hr (fun t ht _ => ⟨congrArg (fun z => Outcome.returned (some (Value.int z))) h9, ht⟩) (fun _ h => nomatch h) dX3_nameOf_10

set_option maxHeartbeats 4000000 in
set_option maxRecDepth 100000 in
theorem cX0_hadSeen_r {l : Launch} {D : va_G} {cA : Nat → ClassId} {adr : Nat → Nat} {n : Nat} {E : Nat → va_E} {k : Nat} {mo : Nat → Int32} {mt sn wt : Int32} {ib : Bool} (hk : k + 1 < n) (hE0 : E k = .inr (0, [.ref (adr (k + 1)), .int mt, .int sn, .int wt, .int (bI ib)])) (hE1 : E (k + 1) = .inl (cA 0, 120, .inl mo)) {j : Nat} (hj : j < 120) (by_ : Int32) : Met l yX0_hadSeen (.code yX0_hadSeen cX0_hadSeen 3 (some .boolean) :: lw_G) ({ frames := 0, cells := 0, slots := 0, locals := 0 } : Room) (va_Pc [.ref (adr k), .int (nI j), .int by_] (wdU D (kty cA) adr n E)) (QcRead (bI (decide (0 < mo j) && decide (mo j ≤ by_)))) 0 0 (fun _ => False) := by
  refine Met.ofW (cc := cX0_hadSeen) (maxL := 3) (ret := (some .boolean)) (by decide) rfl ?_
  intro p e s m args below meth c s₁ B hml hv
  obtain ⟨rfl, hP, hN⟩ := hv
  have hx := B.exec
  have hb := B.bytes
  have hr := B.returns
  have hG : ∀ w ∈ lw_G, w.before _ s = true := fun w h => atoms_spec (ws := _ :: lw_G) B.pre w (List.mem_cons_of_mem _ h)
  have hown : s.vm.findClass RX0 = some m.cls := findClass_of_methodNamed B.named
  have hlocks := B.notSynchronized
  have hK := hN.1
  have hl := lv_entry ([.ref (adr k), .int (nI j), .int by_]) (n := 3) (Nat.le_of_ble_eq_true rfl)
  rw [lg_entry_eq]
  generalize (lg_sl ([.ref (adr k), .int (nI j), .int by_]) ++ List.replicate (3 - (lg_sl ([.ref (adr k), .int (nI j), .int by_])).length) Slot.unset).toArray = ls at hl ⊢
  have hl : lv_has ls 3 [(0, .ref (adr k)), (1, .int (nI j)), (2, .int by_)] := hl
  refine lv_aload_n hx hb dX0_hadSeen_0 rfl (lv_at hl 0 rfl) ?_
  refine va_get (D := D) (ci := 0) (v := .ref (adr (k + 1))) (C := RX0) (T := TX0) (N := 5) hx hb hG inG_X0 hown hK hP k (wl_at (by omega) hE0) rfl 0 (by decide) (hG _ g_79) (fun _ h9 => h9) rfl dX0_hadSeen_1 ?_
  refine lv_iload_n hx hb dX0_hadSeen_4 rfl (lv_at hl 1 rfl) ?_
  refine wn_iald (j := j) hx hb hK hP (by omega) hE1 (by omega) (by decide) dX0_hadSeen_5 ?_
  refine lv_if_le (tgt := 23) hx hb dX0_hadSeen_6 (by decide) (fun c6 => ?_) (fun c6 => ?_)
  · refine lv_iconst (v := 0) hx hb dX0_hadSeen_23 (by decide) ?_
    have h9 : (0 : Int32) = bI (decide (0 < mo j) && decide (mo j ≤ by_)) := by first | (rw [show decide (0 < mo j) = false from by simpa using c6]; rfl) | (rw [show decide (mo j ≤ by_) = false from by simpa using c16, Bool.and_false]; rfl)
    exact W.zret (v := 0) hx hb hr (by first | rfl | exact bI_nar _) (fun t ht _ => ⟨congrArg (fun z => Outcome.returned (some (Value.int z))) h9, ht⟩) (fun _ h => nomatch h) dX0_hadSeen_24
  · refine lv_aload_n hx hb dX0_hadSeen_9 rfl (lv_at hl 0 rfl) ?_
    refine va_get (D := D) (ci := 0) (v := .ref (adr (k + 1))) (C := RX0) (T := TX0) (N := 5) hx hb hG inG_X0 hown hK hP k (wl_at (by omega) hE0) rfl 0 (by decide) (hG _ g_79) (fun _ h9 => h9) rfl dX0_hadSeen_10 ?_
    refine lv_iload_n hx hb dX0_hadSeen_13 rfl (lv_at hl 1 rfl) ?_
    refine wn_iald (j := j) hx hb hK hP (by omega) hE1 (by omega) (by decide) dX0_hadSeen_14 ?_
    refine lv_iload_n hx hb dX0_hadSeen_15 rfl (lv_at hl 2 rfl) ?_
    refine lv_icmp_gt (tgt := 23) hx hb dX0_hadSeen_16 (by decide) (fun c16 => ?_) (fun c16 => ?_)
    · refine lv_iconst (v := 0) hx hb dX0_hadSeen_23 (by decide) ?_
      have h9 : (0 : Int32) = bI (decide (0 < mo j) && decide (mo j ≤ by_)) := by first | (rw [show decide (0 < mo j) = false from by simpa using c6]; rfl) | (rw [show decide (mo j ≤ by_) = false from by simpa using c16, Bool.and_false]; rfl)
      exact W.zret (v := 0) hx hb hr (by first | rfl | exact bI_nar _) (fun t ht _ => ⟨congrArg (fun z => Outcome.returned (some (Value.int z))) h9, ht⟩) (fun _ h => nomatch h) dX0_hadSeen_24
    · refine lv_iconst (v := 1) hx hb dX0_hadSeen_19 (by decide) ?_
      refine lv_goto (tgt := 24) hx hb dX0_hadSeen_20 (by decide) ?_
      have h9 : (1 : Int32) = bI (decide (0 < mo j) && decide (mo j ≤ by_)) := by rw [show decide (0 < mo j) = true from by simpa using c6, show decide (mo j ≤ by_) = true from by simpa using c16]; rfl
      exact W.zret (v := 1) hx hb hr (by first | rfl | exact bI_nar _) (fun t ht _ => ⟨congrArg (fun z => Outcome.returned (some (Value.int z))) h9, ht⟩) (fun _ h => nomatch h) dX0_hadSeen_24

set_option maxHeartbeats 4000000 in
set_option maxRecDepth 100000 in
theorem cX2_areRivals_r {l : Launch} {D : va_G} {cA : Nat → ClassId} {adr : Nat → Nat} {n : Nat} {E : Nat → va_E} {k ct : Nat} {nm td : Nat → Nat} {vl : Nat → Int32} {sd : Nat → Bool} (hk : k + 4 < n) (hct : ct ≤ 120) (hE0 : E k = .inr (2, [.ref (adr (k + 1)), .ref (adr (k + 2)), .ref (adr (k + 3)), .ref (adr (k + 4)), .int (nI ct)])) (hE1 : E (k + 1) = .inl (cA 0, 120, .inl (fun j => nI (nm j)))) (hE2 : E (k + 2) = .inl (cA 0, 120, .inl (fun j => nI (td j)))) (hE3 : E (k + 3) = .inl (cA 0, 120, .inl vl)) (hE4 : E (k + 4) = .inl (cA 1, 120, .inl (fun j => bI (sd j)))) (hnm : ∀ j, nm j < 2560) (htd : ∀ j, td j < 2 ^ 30) {i j : Nat} (hi : i < 120) (hj : j < 120) : Met l yX2_areRivals (.code yX2_areRivals cX2_areRivals 3 (some .boolean) :: lw_G) ({ frames := 0, cells := 0, slots := 0, locals := 0 } : Room) (va_Pc [.ref (adr k), .int (nI i), .int (nI j)] (wdU D (kty cA) adr n E)) (QcRead (bI (!decide (i = j) && decide (nm i = nm j)))) 0 0 (fun _ => False) := by
  refine Met.ofW (cc := cX2_areRivals) (maxL := 3) (ret := (some .boolean)) (by decide) rfl ?_
  intro p e s m args below meth c s₁ B hml hv
  obtain ⟨rfl, hP, hN⟩ := hv
  have hx := B.exec
  have hb := B.bytes
  have hr := B.returns
  have hG : ∀ w ∈ lw_G, w.before _ s = true := fun w h => atoms_spec (ws := _ :: lw_G) B.pre w (List.mem_cons_of_mem _ h)
  have hown : s.vm.findClass RX2 = some m.cls := findClass_of_methodNamed B.named
  have hlocks := B.notSynchronized
  have hK := hN.1
  have hl := lv_entry ([.ref (adr k), .int (nI i), .int (nI j)]) (n := 3) (Nat.le_of_ble_eq_true rfl)
  rw [lg_entry_eq]
  generalize (lg_sl ([.ref (adr k), .int (nI i), .int (nI j)]) ++ List.replicate (3 - (lg_sl ([.ref (adr k), .int (nI i), .int (nI j)])).length) Slot.unset).toArray = ls at hl ⊢
  have hl : lv_has ls 3 [(0, .ref (adr k)), (1, .int (nI i)), (2, .int (nI j))] := hl
  have b1 := hnm i
  have b2 := hnm j
  refine lv_iload_n hx hb dX2_areRivals_0 rfl (lv_at hl 1 rfl) ?_
  refine lv_iload_n hx hb dX2_areRivals_1 rfl (lv_at hl 2 rfl) ?_
  refine lv_icmp_eq (tgt := 24) hx hb dX2_areRivals_2 (by decide) (fun c2 => ?_) (fun c2 => ?_)
  · have n2 : i = j := (nI_eq (a := i) (b := j) (by omega) (by omega)).mp c2
    refine lv_iconst (v := 0) hx hb dX2_areRivals_24 (by decide) ?_
    have h9 : (0 : Int32) = bI (!decide (i = j) && decide (nm i = nm j)) := by first | (rw [show decide (i = j) = true from by simpa using n2]; rfl) | (rw [show decide (i = j) = false from by simpa using n2, show decide (nm i = nm j) = true from by simpa using n17]; rfl) | (rw [show decide (nm i = nm j) = false from by simpa using n17, Bool.and_false]; rfl)
    exact W.zret (v := 0) hx hb hr (by first | rfl | exact bI_nar _) (fun t ht _ => ⟨congrArg (fun z => Outcome.returned (some (Value.int z))) h9, ht⟩) (fun _ h => nomatch h) dX2_areRivals_25
  · have n2 : ¬ i = j := fun h => c2 ((nI_eq (a := i) (b := j) (by omega) (by omega)).mpr h)
    refine lv_aload_n hx hb dX2_areRivals_5 rfl (lv_at hl 0 rfl) ?_
    refine va_get (D := D) (ci := 2) (v := .ref (adr (k + 1))) (C := RX2) (T := TX2) (N := 5) hx hb hG inG_X2 hown hK hP k (wl_at (by omega) hE0) rfl 0 (by decide) (hG _ g_32) (fun _ h9 => h9) rfl dX2_areRivals_6 ?_
    refine lv_iload_n hx hb dX2_areRivals_9 rfl (lv_at hl 1 rfl) ?_
    refine wn_iald (j := i) hx hb hK hP (by omega) hE1 (by omega) (by decide) dX2_areRivals_10 ?_
    refine lv_aload_n hx hb dX2_areRivals_11 rfl (lv_at hl 0 rfl) ?_
    refine va_get (D := D) (ci := 2) (v := .ref (adr (k + 1))) (C := RX2) (T := TX2) (N := 5) hx hb hG inG_X2 hown hK hP k (wl_at (by omega) hE0) rfl 0 (by decide) (hG _ g_32) (fun _ h9 => h9) rfl dX2_areRivals_12 ?_
    refine lv_iload_n hx hb dX2_areRivals_15 rfl (lv_at hl 2 rfl) ?_
    refine wn_iald (j := j) hx hb hK hP (by omega) hE1 (by omega) (by decide) dX2_areRivals_16 ?_
    refine lv_icmp_ne (tgt := 24) hx hb dX2_areRivals_17 (by decide) (fun c17 => ?_) (fun c17 => ?_)
    · have n17 : ¬ (nm i) = (nm j) := fun h => c17 ((nI_eq (a := (nm i)) (b := (nm j)) (by omega) (by omega)).mpr h)
      refine lv_iconst (v := 0) hx hb dX2_areRivals_24 (by decide) ?_
      have h9 : (0 : Int32) = bI (!decide (i = j) && decide (nm i = nm j)) := by first | (rw [show decide (i = j) = true from by simpa using n2]; rfl) | (rw [show decide (i = j) = false from by simpa using n2, show decide (nm i = nm j) = true from by simpa using n17]; rfl) | (rw [show decide (nm i = nm j) = false from by simpa using n17, Bool.and_false]; rfl)
      exact W.zret (v := 0) hx hb hr (by first | rfl | exact bI_nar _) (fun t ht _ => ⟨congrArg (fun z => Outcome.returned (some (Value.int z))) h9, ht⟩) (fun _ h => nomatch h) dX2_areRivals_25
    · have n17 : (nm i) = (nm j) := (nI_eq (a := (nm i)) (b := (nm j)) (by omega) (by omega)).mp c17
      refine lv_iconst (v := 1) hx hb dX2_areRivals_20 (by decide) ?_
      refine lv_goto (tgt := 25) hx hb dX2_areRivals_21 (by decide) ?_
      have h9 : (1 : Int32) = bI (!decide (i = j) && decide (nm i = nm j)) := by first | (rw [show decide (i = j) = true from by simpa using n2]; rfl) | (rw [show decide (i = j) = false from by simpa using n2, show decide (nm i = nm j) = true from by simpa using n17]; rfl) | (rw [show decide (nm i = nm j) = false from by simpa using n17, Bool.and_false]; rfl)
      exact W.zret (v := 1) hx hb hr (by first | rfl | exact bI_nar _) (fun t ht _ => ⟨congrArg (fun z => Outcome.returned (some (Value.int z))) h9, ht⟩) (fun _ h => nomatch h) dX2_areRivals_25

set_option maxHeartbeats 4000000 in
set_option maxRecDepth 100000 in
theorem cX2_teller_r {l : Launch} {D : va_G} {cA : Nat → ClassId} {adr : Nat → Nat} {n : Nat} {E : Nat → va_E} {k ct : Nat} {nm td : Nat → Nat} {vl : Nat → Int32} {sd : Nat → Bool} (hk : k + 4 < n) (hct : ct ≤ 120) (hE0 : E k = .inr (2, [.ref (adr (k + 1)), .ref (adr (k + 2)), .ref (adr (k + 3)), .ref (adr (k + 4)), .int (nI ct)])) (hE1 : E (k + 1) = .inl (cA 0, 120, .inl (fun j => nI (nm j)))) (hE2 : E (k + 2) = .inl (cA 0, 120, .inl (fun j => nI (td j)))) (hE3 : E (k + 3) = .inl (cA 0, 120, .inl vl)) (hE4 : E (k + 4) = .inl (cA 1, 120, .inl (fun j => bI (sd j)))) (hnm : ∀ j, nm j < 2560) (htd : ∀ j, td j < 2 ^ 30) {i : Nat} (hi : i < 120) : Met l yX2_teller (.code yX2_teller cX2_teller 2 (some .int) :: lw_G) ({ frames := 0, cells := 0, slots := 0, locals := 0 } : Room) (va_Pc [.ref (adr k), .int (nI i)] (wdU D (kty cA) adr n E)) (QcRead (nI (nm i / 512))) 0 0 (fun _ => False) := by
  refine Met.ofW (cc := cX2_teller) (maxL := 2) (ret := (some .int)) (by decide) rfl ?_
  intro p e s m args below meth c s₁ B hml hv
  obtain ⟨rfl, hP, hN⟩ := hv
  have hx := B.exec
  have hb := B.bytes
  have hr := B.returns
  have hG : ∀ w ∈ lw_G, w.before _ s = true := fun w h => atoms_spec (ws := _ :: lw_G) B.pre w (List.mem_cons_of_mem _ h)
  have hown : s.vm.findClass RX2 = some m.cls := findClass_of_methodNamed B.named
  have hlocks := B.notSynchronized
  have hK := hN.1
  have hl := lv_entry ([.ref (adr k), .int (nI i)]) (n := 2) (Nat.le_of_ble_eq_true rfl)
  rw [lg_entry_eq]
  generalize (lg_sl ([.ref (adr k), .int (nI i)]) ++ List.replicate (2 - (lg_sl ([.ref (adr k), .int (nI i)])).length) Slot.unset).toArray = ls at hl ⊢
  have hl : lv_has ls 2 [(0, .ref (adr k)), (1, .int (nI i))] := hl
  have b1 := hnm i
  refine lv_aload_n hx hb dX2_teller_0 rfl (lv_at hl 0 rfl) ?_
  refine va_get (D := D) (ci := 2) (v := .ref (adr (k + 1))) (C := RX2) (T := TX2) (N := 5) hx hb hG inG_X2 hown hK hP k (wl_at (by omega) hE0) rfl 0 (by decide) (hG _ g_32) (fun _ h9 => h9) rfl dX2_teller_1 ?_
  refine lv_iload_n hx hb dX2_teller_4 rfl (lv_at hl 1 rfl) ?_
  refine wn_iald (j := i) hx hb hK hP (by omega) hE1 (by omega) (by decide) dX2_teller_5 ?_
  refine lv_bipush (v := 9) hx hb dX2_teller_6 (by decide) ?_
  refine lv_ishr hx hb dX2_teller_8 ?_
  have h9 : ((nI (nm i)) >>> (9 &&& 31) : Int32) = nI (nm i / 512) := by rw [pk_shrN (by omega) _ 9 (by decide)]
  exact W.iret (v := (nI (nm i)) >>> (9 &&& 31)) hx hb hr (fun t ht _ => ⟨congrArg (fun z => Outcome.returned (some (Value.int z))) h9, ht⟩) (fun _ h => nomatch h) dX2_teller_9

set_option maxHeartbeats 4000000 in
set_option maxRecDepth 100000 in
theorem cX2_life_r {l : Launch} {D : va_G} {cA : Nat → ClassId} {adr : Nat → Nat} {n : Nat} {E : Nat → va_E} {k ct : Nat} {nm td : Nat → Nat} {vl : Nat → Int32} {sd : Nat → Bool} (hk : k + 4 < n) (hct : ct ≤ 120) (hE0 : E k = .inr (2, [.ref (adr (k + 1)), .ref (adr (k + 2)), .ref (adr (k + 3)), .ref (adr (k + 4)), .int (nI ct)])) (hE1 : E (k + 1) = .inl (cA 0, 120, .inl (fun j => nI (nm j)))) (hE2 : E (k + 2) = .inl (cA 0, 120, .inl (fun j => nI (td j)))) (hE3 : E (k + 3) = .inl (cA 0, 120, .inl vl)) (hE4 : E (k + 4) = .inl (cA 1, 120, .inl (fun j => bI (sd j)))) (hnm : ∀ j, nm j < 2560) (htd : ∀ j, td j < 2 ^ 30) {i : Nat} (hi : i < 120) : Met l yX2_life (.code yX2_life cX2_life 2 (some .int) :: lw_G) ({ frames := 1, cells := 0, slots := 0, locals := 21 } : Room) (va_Pc [.ref (adr k), .int (nI i)] (wdU D (kty cA) adr n E)) (QcRead (nI (nm i / 128 % 4))) 0 0 (fun _ => False) := by
  refine Met.ofW (cc := cX2_life) (maxL := 2) (ret := (some .int)) (by decide) rfl ?_
  intro p e s m args below meth c s₁ B hml hv
  obtain ⟨rfl, hP, hN⟩ := hv
  have hx := B.exec
  have hb := B.bytes
  have hr := B.returns
  have hG : ∀ w ∈ lw_G, w.before _ s = true := fun w h => atoms_spec (ws := _ :: lw_G) B.pre w (List.mem_cons_of_mem _ h)
  have hown : s.vm.findClass RX2 = some m.cls := findClass_of_methodNamed B.named
  have hlocks := B.notSynchronized
  have hK := hN.1
  have hl := lv_entry ([.ref (adr k), .int (nI i)]) (n := 2) (Nat.le_of_ble_eq_true rfl)
  rw [lg_entry_eq]
  generalize (lg_sl ([.ref (adr k), .int (nI i)]) ++ List.replicate (2 - (lg_sl ([.ref (adr k), .int (nI i)])).length) Slot.unset).toArray = ls at hl ⊢
  have hl : lv_has ls 2 [(0, .ref (adr k)), (1, .int (nI i))] := hl
  have b1 := hnm i
  refine lv_aload_n hx hb dX2_life_0 rfl (lv_at hl 0 rfl) ?_
  refine va_get (D := D) (ci := 2) (v := .ref (adr (k + 1))) (C := RX2) (T := TX2) (N := 5) hx hb hG inG_X2 hown hK hP k (wl_at (by omega) hE0) rfl 0 (by decide) (hG _ g_32) (fun _ h9 => h9) rfl dX2_life_1 ?_
  refine lv_iload_n hx hb dX2_life_4 rfl (lv_at hl 1 rfl) ?_
  refine wn_iald (j := i) hx hb hK hP (by omega) hE1 (by omega) (by decide) dX2_life_5 ?_
  refine lv_bipush (v := 7) hx hb dX2_life_6 (by decide) ?_
  refine lv_ishr hx hb dX2_life_8 ?_
  refine lv_iconst (v := 2) hx hb dX2_life_9 (by decide) ?_
  refine wn_rSN (rest := []) hx hb hml hown hG (cX3_lowBits_r _ _) ⟨va_cnB (host := "ToldRows") 2 hG (gI g_279) rfl rfl rfl (hN.2 _ kN_lowBits) (hG _ g_1) (by decide +kernel) ⟨Nat.le_of_ble_eq_true rfl, Nat.le_of_ble_eq_true rfl⟩, hG _ g_278, trivial⟩ rfl hl.1 rfl (Nat.le_of_ble_eq_true rfl) dX2_life_10 ⟨Nat.zero_le _, Nat.zero_le _⟩ ?_
  have h9 : (((nI (nm i)) >>> (7 &&& 31)) &&& ((1 <<< ((2 : Int32) &&& 31)) - 1) : Int32) = nI (nm i / 128 % 4) := by rw [show ((1 : Int32) <<< ((2 : Int32) &&& 31)) - 1 = 3 from by decide, pk_shrN (by omega) _ 7 (by decide), pk_andN (by omega) 2 (by decide)]
  exact W.iret (v := ((nI (nm i)) >>> (7 &&& 31)) &&& ((1 <<< ((2 : Int32) &&& 31)) - 1)) hx hb hr (fun t ht _ => ⟨congrArg (fun z => Outcome.returned (some (Value.int z))) h9, ht⟩) (fun _ h => nomatch h) dX2_life_13

set_option maxHeartbeats 4000000 in
set_option maxRecDepth 100000 in
theorem cX2_number_r {l : Launch} {D : va_G} {cA : Nat → ClassId} {adr : Nat → Nat} {n : Nat} {E : Nat → va_E} {k ct : Nat} {nm td : Nat → Nat} {vl : Nat → Int32} {sd : Nat → Bool} (hk : k + 4 < n) (hct : ct ≤ 120) (hE0 : E k = .inr (2, [.ref (adr (k + 1)), .ref (adr (k + 2)), .ref (adr (k + 3)), .ref (adr (k + 4)), .int (nI ct)])) (hE1 : E (k + 1) = .inl (cA 0, 120, .inl (fun j => nI (nm j)))) (hE2 : E (k + 2) = .inl (cA 0, 120, .inl (fun j => nI (td j)))) (hE3 : E (k + 3) = .inl (cA 0, 120, .inl vl)) (hE4 : E (k + 4) = .inl (cA 1, 120, .inl (fun j => bI (sd j)))) (hnm : ∀ j, nm j < 2560) (htd : ∀ j, td j < 2 ^ 30) {i : Nat} (hi : i < 120) : Met l yX2_number (.code yX2_number cX2_number 2 (some .int) :: lw_G) ({ frames := 1, cells := 0, slots := 0, locals := 21 } : Room) (va_Pc [.ref (adr k), .int (nI i)] (wdU D (kty cA) adr n E)) (QcRead (nI (nm i % 128))) 0 0 (fun _ => False) := by
  refine Met.ofW (cc := cX2_number) (maxL := 2) (ret := (some .int)) (by decide) rfl ?_
  intro p e s m args below meth c s₁ B hml hv
  obtain ⟨rfl, hP, hN⟩ := hv
  have hx := B.exec
  have hb := B.bytes
  have hr := B.returns
  have hG : ∀ w ∈ lw_G, w.before _ s = true := fun w h => atoms_spec (ws := _ :: lw_G) B.pre w (List.mem_cons_of_mem _ h)
  have hown : s.vm.findClass RX2 = some m.cls := findClass_of_methodNamed B.named
  have hlocks := B.notSynchronized
  have hK := hN.1
  have hl := lv_entry ([.ref (adr k), .int (nI i)]) (n := 2) (Nat.le_of_ble_eq_true rfl)
  rw [lg_entry_eq]
  generalize (lg_sl ([.ref (adr k), .int (nI i)]) ++ List.replicate (2 - (lg_sl ([.ref (adr k), .int (nI i)])).length) Slot.unset).toArray = ls at hl ⊢
  have hl : lv_has ls 2 [(0, .ref (adr k)), (1, .int (nI i))] := hl
  have b1 := hnm i
  refine lv_aload_n hx hb dX2_number_0 rfl (lv_at hl 0 rfl) ?_
  refine va_get (D := D) (ci := 2) (v := .ref (adr (k + 1))) (C := RX2) (T := TX2) (N := 5) hx hb hG inG_X2 hown hK hP k (wl_at (by omega) hE0) rfl 0 (by decide) (hG _ g_32) (fun _ h9 => h9) rfl dX2_number_1 ?_
  refine lv_iload_n hx hb dX2_number_4 rfl (lv_at hl 1 rfl) ?_
  refine wn_iald (j := i) hx hb hK hP (by omega) hE1 (by omega) (by decide) dX2_number_5 ?_
  refine lv_bipush (v := 7) hx hb dX2_number_6 (by decide) ?_
  refine wn_rSN (rest := []) hx hb hml hown hG (cX3_lowBits_r _ _) ⟨va_cnB (host := "ToldRows") 2 hG (gI g_279) rfl rfl rfl (hN.2 _ kN_lowBits) (hG _ g_1) (by decide +kernel) ⟨Nat.le_of_ble_eq_true rfl, Nat.le_of_ble_eq_true rfl⟩, hG _ g_278, trivial⟩ rfl hl.1 rfl (Nat.le_of_ble_eq_true rfl) dX2_number_8 ⟨Nat.zero_le _, Nat.zero_le _⟩ ?_
  have h9 : ((nI (nm i)) &&& ((1 <<< ((7 : Int32) &&& 31)) - 1) : Int32) = nI (nm i % 128) := by rw [show ((1 : Int32) <<< ((7 : Int32) &&& 31)) - 1 = 127 from by decide, pk_andN (by omega) 7 (by decide)]
  exact W.iret (v := (nI (nm i)) &&& ((1 <<< ((7 : Int32) &&& 31)) - 1)) hx hb hr (fun t ht _ => ⟨congrArg (fun z => Outcome.returned (some (Value.int z))) h9, ht⟩) (fun _ h => nomatch h) dX2_number_11

set_option maxHeartbeats 4000000 in
set_option maxRecDepth 100000 in
theorem cX2_key_r {l : Launch} {D : va_G} {cA : Nat → ClassId} {adr : Nat → Nat} {n : Nat} {E : Nat → va_E} {k ct : Nat} {nm td : Nat → Nat} {vl : Nat → Int32} {sd : Nat → Bool} (hk : k + 4 < n) (hct : ct ≤ 120) (hE0 : E k = .inr (2, [.ref (adr (k + 1)), .ref (adr (k + 2)), .ref (adr (k + 3)), .ref (adr (k + 4)), .int (nI ct)])) (hE1 : E (k + 1) = .inl (cA 0, 120, .inl (fun j => nI (nm j)))) (hE2 : E (k + 2) = .inl (cA 0, 120, .inl (fun j => nI (td j)))) (hE3 : E (k + 3) = .inl (cA 0, 120, .inl vl)) (hE4 : E (k + 4) = .inl (cA 1, 120, .inl (fun j => bI (sd j)))) (hnm : ∀ j, nm j < 2560) (htd : ∀ j, td j < 2 ^ 30) {i : Nat} (hi : i < 120) : Met l yX2_key (.code yX2_key cX2_key 2 (some .int) :: lw_G) ({ frames := 2, cells := 0, slots := 0, locals := 41 } : Room) (va_Pc [.ref (adr k), .int (nI i)] (wdU D (kty cA) adr n E)) (QcRead (nI (td i / 2 ^ 20 % 8))) 0 0 (fun _ => False) := by
  refine Met.ofW (cc := cX2_key) (maxL := 2) (ret := (some .int)) (by decide) rfl ?_
  intro p e s m args below meth c s₁ B hml hv
  obtain ⟨rfl, hP, hN⟩ := hv
  have hx := B.exec
  have hb := B.bytes
  have hr := B.returns
  have hG : ∀ w ∈ lw_G, w.before _ s = true := fun w h => atoms_spec (ws := _ :: lw_G) B.pre w (List.mem_cons_of_mem _ h)
  have hown : s.vm.findClass RX2 = some m.cls := findClass_of_methodNamed B.named
  have hlocks := B.notSynchronized
  have hK := hN.1
  have hl := lv_entry ([.ref (adr k), .int (nI i)]) (n := 2) (Nat.le_of_ble_eq_true rfl)
  rw [lg_entry_eq]
  generalize (lg_sl ([.ref (adr k), .int (nI i)]) ++ List.replicate (2 - (lg_sl ([.ref (adr k), .int (nI i)])).length) Slot.unset).toArray = ls at hl ⊢
  have hl : lv_has ls 2 [(0, .ref (adr k)), (1, .int (nI i))] := hl
  have b1 := htd i
  refine lv_aload_n hx hb dX2_key_0 rfl (lv_at hl 0 rfl) ?_
  refine va_get (D := D) (ci := 2) (v := .ref (adr (k + 2))) (C := RX2) (T := TX2) (N := 5) hx hb hG inG_X2 hown hK hP k (wl_at (by omega) hE0) rfl 1 (by decide) (hG _ g_34) (fun _ h9 => h9) rfl dX2_key_1 ?_
  refine lv_iload_n hx hb dX2_key_4 rfl (lv_at hl 1 rfl) ?_
  refine wn_iald (j := i) hx hb hK hP (by omega) hE2 (by omega) (by decide) dX2_key_5 ?_
  refine wn_rSN (rest := []) hx hb hml hown hG (cX3_keyIn_r _) ⟨va_cnB (host := "ToldRows") 1 hG (gI g_419) rfl rfl rfl (hN.2 _ kN_keyIn) (hG _ g_1) (by decide +kernel) ⟨Nat.le_of_ble_eq_true rfl, Nat.le_of_ble_eq_true rfl⟩, hG _ g_418, trivial⟩ rfl hl.1 rfl (Nat.le_of_ble_eq_true rfl) dX2_key_6 ⟨Nat.zero_le _, Nat.zero_le _⟩ ?_
  have h9 : (((nI (td i)) >>> ((20 : Int32) &&& 31)) &&& 7 : Int32) = nI (td i / 2 ^ 20 % 8) := by rw [pk_shrN (by omega) _ 20 (by decide), pk_andN (by omega) 3 (by decide)]
  exact W.iret (v := ((nI (td i)) >>> ((20 : Int32) &&& 31)) &&& 7) hx hb hr (fun t ht _ => ⟨congrArg (fun z => Outcome.returned (some (Value.int z))) h9, ht⟩) (fun _ h => nomatch h) dX2_key_9

set_option maxHeartbeats 4000000 in
set_option maxRecDepth 100000 in
theorem cX2_rank_r {l : Launch} {D : va_G} {cA : Nat → ClassId} {adr : Nat → Nat} {n : Nat} {E : Nat → va_E} {k ct : Nat} {nm td : Nat → Nat} {vl : Nat → Int32} {sd : Nat → Bool} (hk : k + 4 < n) (hct : ct ≤ 120) (hE0 : E k = .inr (2, [.ref (adr (k + 1)), .ref (adr (k + 2)), .ref (adr (k + 3)), .ref (adr (k + 4)), .int (nI ct)])) (hE1 : E (k + 1) = .inl (cA 0, 120, .inl (fun j => nI (nm j)))) (hE2 : E (k + 2) = .inl (cA 0, 120, .inl (fun j => nI (td j)))) (hE3 : E (k + 3) = .inl (cA 0, 120, .inl vl)) (hE4 : E (k + 4) = .inl (cA 1, 120, .inl (fun j => bI (sd j)))) (hnm : ∀ j, nm j < 2560) (htd : ∀ j, td j < 2 ^ 30) {i : Nat} (hi : i < 120) : Met l yX2_rank (.code yX2_rank cX2_rank 2 (some .int) :: lw_G) ({ frames := 2, cells := 0, slots := 0, locals := 43 } : Room) (va_Pc [.ref (adr k), .int (nI i)] (wdU D (kty cA) adr n E)) (QcRead (nI (nm i / 128 % 4 * 1024 + nm i / 512 * 128 + nm i % 128))) 0 0 (fun _ => False) := by
  refine Met.ofW (cc := cX2_rank) (maxL := 2) (ret := (some .int)) (by decide) rfl ?_
  intro p e s m args below meth c s₁ B hml hv
  obtain ⟨rfl, hP, hN⟩ := hv
  have hx := B.exec
  have hb := B.bytes
  have hr := B.returns
  have hG : ∀ w ∈ lw_G, w.before _ s = true := fun w h => atoms_spec (ws := _ :: lw_G) B.pre w (List.mem_cons_of_mem _ h)
  have hown : s.vm.findClass RX2 = some m.cls := findClass_of_methodNamed B.named
  have hlocks := B.notSynchronized
  have hK := hN.1
  have hl := lv_entry ([.ref (adr k), .int (nI i)]) (n := 2) (Nat.le_of_ble_eq_true rfl)
  rw [lg_entry_eq]
  generalize (lg_sl ([.ref (adr k), .int (nI i)]) ++ List.replicate (2 - (lg_sl ([.ref (adr k), .int (nI i)])).length) Slot.unset).toArray = ls at hl ⊢
  have hl : lv_has ls 2 [(0, .ref (adr k)), (1, .int (nI i))] := hl
  have b1 := hnm i
  refine lv_aload_n hx hb dX2_rank_0 rfl (lv_at hl 0 rfl) ?_
  refine lv_iload_n hx hb dX2_rank_1 rfl (lv_at hl 1 rfl) ?_
  refine wn_rV (rest := []) hx hb hml hown hG hN hP (cX2_life_r hk hct hE0 hE1 hE2 hE3 hE4 hnm htd hi) (cwV 1 hG (gV g_440 g_441 g_442 g_2 g_443) rfl rfl rfl (by decide +kernel) ⟨Nat.le_of_ble_eq_true rfl, Nat.le_of_ble_eq_true rfl⟩) (by omega) hE0 rfl rfl hl.1 rfl (Nat.le_of_ble_eq_true rfl) dX2_rank_2 ⟨Nat.zero_le _, Nat.zero_le _⟩ ?_
  refine lv_iconst (v := 3) hx hb dX2_rank_5 (by decide) ?_
  refine lv_ishl hx hb dX2_rank_6 ?_
  refine lv_aload_n hx hb dX2_rank_7 rfl (lv_at hl 0 rfl) ?_
  refine lv_iload_n hx hb dX2_rank_8 rfl (lv_at hl 1 rfl) ?_
  refine wn_rV (rest := [.int ((nI (nm i / 128 % 4)) <<< (3 &&& 31))]) hx hb hml hown hG hN hP (cX2_teller_r hk hct hE0 hE1 hE2 hE3 hE4 hnm htd hi) (cwV 1 hG (gV g_445 g_433 g_434 g_2 g_435) rfl rfl rfl (by decide +kernel) ⟨Nat.le_of_ble_eq_true rfl, Nat.le_of_ble_eq_true rfl⟩) (by omega) hE0 rfl rfl hl.1 rfl (Nat.le_of_ble_eq_true rfl) dX2_rank_9 ⟨Nat.zero_le _, Nat.zero_le _⟩ ?_
  refine lv_ior hx hb dX2_rank_12 ?_
  refine lv_bipush (v := 7) hx hb dX2_rank_13 (by decide) ?_
  refine lv_ishl hx hb dX2_rank_15 ?_
  refine lv_aload_n hx hb dX2_rank_16 rfl (lv_at hl 0 rfl) ?_
  refine lv_iload_n hx hb dX2_rank_17 rfl (lv_at hl 1 rfl) ?_
  refine wn_rV (rest := [.int ((((nI (nm i / 128 % 4)) <<< (3 &&& 31)) ||| (nI (nm i / 512))) <<< (7 &&& 31))]) hx hb hml hown hG hN hP (cX2_number_r hk hct hE0 hE1 hE2 hE3 hE4 hnm htd hi) (cwV 1 hG (gV g_446 g_447 g_448 g_2 g_449) rfl rfl rfl (by decide +kernel) ⟨Nat.le_of_ble_eq_true rfl, Nat.le_of_ble_eq_true rfl⟩) (by omega) hE0 rfl rfl hl.1 rfl (Nat.le_of_ble_eq_true rfl) dX2_rank_18 ⟨Nat.zero_le _, Nat.zero_le _⟩ ?_
  refine lv_ior hx hb dX2_rank_21 ?_
  have h9 : (((((nI (nm i / 128 % 4)) <<< (3 &&& 31)) ||| (nI (nm i / 512))) <<< (7 &&& 31)) ||| (nI (nm i % 128)) : Int32) = nI (nm i / 128 % 4 * 1024 + nm i / 512 * 128 + nm i % 128) := by rw [show nI (nm i / 128 % 4) <<< ((3 : Int32) &&& 31) = nI ((nm i / 128 % 4) * 2 ^ 3) from pk_shlN _ 3 (by decide) (by omega), nI_or (by omega), show nI (nm i / 128 % 4 * 2 ^ 3 + nm i / 512) <<< ((7 : Int32) &&& 31) = nI ((nm i / 128 % 4 * 2 ^ 3 + nm i / 512) * 2 ^ 7) from pk_shlN _ 7 (by decide) (by omega), nI_or (by omega)]; congr 1; omega
  exact W.iret (v := ((((nI (nm i / 128 % 4)) <<< (3 &&& 31)) ||| (nI (nm i / 512))) <<< (7 &&& 31)) ||| (nI (nm i % 128))) hx hb hr (fun t ht _ => ⟨congrArg (fun z => Outcome.returned (some (Value.int z))) h9, ht⟩) (fun _ h => nomatch h) dX2_rank_22

set_option maxHeartbeats 4000000 in
set_option maxRecDepth 100000 in
theorem cX1_canFollow_r {l : Launch} {D : va_G} {cA : Nat → ClassId} {adr : Nat → Nat} {n : Nat} {E : Nat → va_E} {k mk lf : Nat} {ow re : Nat → Int32} (hk : k + 2 < n) (hm : mk ≤ 6) (hE0 : E k = .inr (1, [.ref (adr (k + 1)), .ref (adr (k + 2)), .int (nI mk), .int (nI lf)])) (hE1 : E (k + 1) = .inl (cA 0, 6, .inl ow)) (hE2 : E (k + 2) = .inl (cA 0, 6, .inl re)) (a b : Int32) : Met l yX1_canFollow (.code yX1_canFollow cX1_canFollow 3 (some .boolean) :: lw_G) ({ frames := 0, cells := 0, slots := 0, locals := 0 } : Room) (va_Pc [.ref (adr k), .int a, .int b] (wdU D (kty cA) adr n E)) (QcRead (bI (decide (mk = 0) || (decide (ow (mk - 1) < a) && decide (re (mk - 1) ≤ b))))) 0 0 (fun _ => False) := by
  refine Met.ofW (cc := cX1_canFollow) (maxL := 3) (ret := (some .boolean)) (by decide) rfl ?_
  intro p e s m args below meth c s₁ B hml hv
  obtain ⟨rfl, hP, hN⟩ := hv
  have hx := B.exec
  have hb := B.bytes
  have hr := B.returns
  have hG : ∀ w ∈ lw_G, w.before _ s = true := fun w h => atoms_spec (ws := _ :: lw_G) B.pre w (List.mem_cons_of_mem _ h)
  have hown : s.vm.findClass RX1 = some m.cls := findClass_of_methodNamed B.named
  have hlocks := B.notSynchronized
  have hK := hN.1
  have hl := lv_entry ([.ref (adr k), .int a, .int b]) (n := 3) (Nat.le_of_ble_eq_true rfl)
  rw [lg_entry_eq]
  generalize (lg_sl ([.ref (adr k), .int a, .int b]) ++ List.replicate (3 - (lg_sl ([.ref (adr k), .int a, .int b])).length) Slot.unset).toArray = ls at hl ⊢
  have hl : lv_has ls 3 [(0, .ref (adr k)), (1, .int a), (2, .int b)] := hl
  refine lv_aload_n hx hb dX1_canFollow_0 rfl (lv_at hl 0 rfl) ?_
  refine va_get (D := D) (ci := 1) (v := .int (nI mk)) (C := RX1) (T := TX1) (N := 4) hx hb hG inG_X1 hown hK hP k (wl_at (by omega) hE0) rfl 2 (by decide) (hG _ g_62) (fun _ h9 => h9) rfl dX1_canFollow_1 ?_
  refine lv_if_eq (tgt := 37) hx hb dX1_canFollow_4 (by decide) (fun c4 => ?_) (fun c4 => ?_)
  · have n4 : mk = 0 := (nI_eq (a := mk) (b := 0) (by omega) (by omega)).mp c4
    refine lv_iconst (v := 1) hx hb dX1_canFollow_37 (by decide) ?_
    refine lv_goto (tgt := 42) hx hb dX1_canFollow_38 (by decide) ?_
    have h9 : (1 : Int32) = bI (decide (mk = 0) || (decide (ow (mk - 1) < a) && decide (re (mk - 1) ≤ b))) := by first | (rw [show decide (mk = 0) = true from by simpa using n4]; rfl) | (rw [show decide (mk = 0) = false from by simpa using n4, show decide (ow (mk - 1) < a) = false from by simpa using c19]; rfl) | (rw [show decide (mk = 0) = false from by simpa using n4, show decide (ow (mk - 1) < a) = true from by simpa using c19, show decide (re (mk - 1) ≤ b) = true from by simpa using c34]; rfl) | (rw [show decide (mk = 0) = false from by simpa using n4, show decide (re (mk - 1) ≤ b) = false from by simpa using c34, Bool.and_false]; rfl)
    exact W.zret (v := 1) hx hb hr (by first | rfl | exact bI_nar _) (fun t ht _ => ⟨congrArg (fun z => Outcome.returned (some (Value.int z))) h9, ht⟩) (fun _ h => nomatch h) dX1_canFollow_42
  · have n4 : ¬ mk = 0 := fun h => c4 ((nI_eq (a := mk) (b := 0) (by omega) (by omega)).mpr h)
    refine lv_iload_n hx hb dX1_canFollow_7 rfl (lv_at hl 1 rfl) ?_
    refine lv_aload_n hx hb dX1_canFollow_8 rfl (lv_at hl 0 rfl) ?_
    refine va_get (D := D) (ci := 1) (v := .ref (adr (k + 1))) (C := RX1) (T := TX1) (N := 4) hx hb hG inG_X1 hown hK hP k (wl_at (by omega) hE0) rfl 0 (by decide) (hG _ g_60) (fun _ h9 => h9) rfl dX1_canFollow_9 ?_
    refine lv_aload_n hx hb dX1_canFollow_12 rfl (lv_at hl 0 rfl) ?_
    refine va_get (D := D) (ci := 1) (v := .int (nI mk)) (C := RX1) (T := TX1) (N := 4) hx hb hG inG_X1 hown hK hP k (wl_at (by omega) hE0) rfl 2 (by decide) (hG _ g_62) (fun _ h9 => h9) rfl dX1_canFollow_13 ?_
    refine lv_iconst (v := 1) hx hb dX1_canFollow_16 (by decide) ?_
    refine lv_isub hx hb dX1_canFollow_17 ?_
    refine lv_topi (fun y9 e9 => ?_)
    have e9 : y9 = nI (mk - 1) := e9.trans (by obtain ⟨z, rfl⟩ : ∃ z, mk = z + 1 := ⟨mk - 1, by omega⟩; exact nI_pred z)
    subst e9
    refine wn_iald (j := (mk - 1)) hx hb hK hP (by omega) hE1 (by omega) (by decide) dX1_canFollow_18 ?_
    refine lv_icmp_le (tgt := 41) hx hb dX1_canFollow_19 (by decide) (fun c19 => ?_) (fun c19 => ?_)
    · refine lv_iconst (v := 0) hx hb dX1_canFollow_41 (by decide) ?_
      have h9 : (0 : Int32) = bI (decide (mk = 0) || (decide (ow (mk - 1) < a) && decide (re (mk - 1) ≤ b))) := by first | (rw [show decide (mk = 0) = true from by simpa using n4]; rfl) | (rw [show decide (mk = 0) = false from by simpa using n4, show decide (ow (mk - 1) < a) = false from by simpa using c19]; rfl) | (rw [show decide (mk = 0) = false from by simpa using n4, show decide (ow (mk - 1) < a) = true from by simpa using c19, show decide (re (mk - 1) ≤ b) = true from by simpa using c34]; rfl) | (rw [show decide (mk = 0) = false from by simpa using n4, show decide (re (mk - 1) ≤ b) = false from by simpa using c34, Bool.and_false]; rfl)
      exact W.zret (v := 0) hx hb hr (by first | rfl | exact bI_nar _) (fun t ht _ => ⟨congrArg (fun z => Outcome.returned (some (Value.int z))) h9, ht⟩) (fun _ h => nomatch h) dX1_canFollow_42
    · refine lv_iload_n hx hb dX1_canFollow_22 rfl (lv_at hl 2 rfl) ?_
      refine lv_aload_n hx hb dX1_canFollow_23 rfl (lv_at hl 0 rfl) ?_
      refine va_get (D := D) (ci := 1) (v := .ref (adr (k + 2))) (C := RX1) (T := TX1) (N := 4) hx hb hG inG_X1 hown hK hP k (wl_at (by omega) hE0) rfl 1 (by decide) (hG _ g_61) (fun _ h9 => h9) rfl dX1_canFollow_24 ?_
      refine lv_aload_n hx hb dX1_canFollow_27 rfl (lv_at hl 0 rfl) ?_
      refine va_get (D := D) (ci := 1) (v := .int (nI mk)) (C := RX1) (T := TX1) (N := 4) hx hb hG inG_X1 hown hK hP k (wl_at (by omega) hE0) rfl 2 (by decide) (hG _ g_62) (fun _ h9 => h9) rfl dX1_canFollow_28 ?_
      refine lv_iconst (v := 1) hx hb dX1_canFollow_31 (by decide) ?_
      refine lv_isub hx hb dX1_canFollow_32 ?_
      refine lv_topi (fun y9 e9 => ?_)
      have e9 : y9 = nI (mk - 1) := e9.trans (by obtain ⟨z, rfl⟩ : ∃ z, mk = z + 1 := ⟨mk - 1, by omega⟩; exact nI_pred z)
      subst e9
      refine wn_iald (j := (mk - 1)) hx hb hK hP (by omega) hE2 (by omega) (by decide) dX1_canFollow_33 ?_
      refine lv_icmp_lt (tgt := 41) hx hb dX1_canFollow_34 (by decide) (fun c34 => ?_) (fun c34 => ?_)
      · refine lv_iconst (v := 0) hx hb dX1_canFollow_41 (by decide) ?_
        have h9 : (0 : Int32) = bI (decide (mk = 0) || (decide (ow (mk - 1) < a) && decide (re (mk - 1) ≤ b))) := by first | (rw [show decide (mk = 0) = true from by simpa using n4]; rfl) | (rw [show decide (mk = 0) = false from by simpa using n4, show decide (ow (mk - 1) < a) = false from by simpa using c19]; rfl) | (rw [show decide (mk = 0) = false from by simpa using n4, show decide (ow (mk - 1) < a) = true from by simpa using c19, show decide (re (mk - 1) ≤ b) = true from by simpa using c34]; rfl) | (rw [show decide (mk = 0) = false from by simpa using n4, show decide (re (mk - 1) ≤ b) = false from by simpa using c34, Bool.and_false]; rfl)
        exact W.zret (v := 0) hx hb hr (by first | rfl | exact bI_nar _) (fun t ht _ => ⟨congrArg (fun z => Outcome.returned (some (Value.int z))) h9, ht⟩) (fun _ h => nomatch h) dX1_canFollow_42
      · refine lv_iconst (v := 1) hx hb dX1_canFollow_37 (by decide) ?_
        refine lv_goto (tgt := 42) hx hb dX1_canFollow_38 (by decide) ?_
        have h9 : (1 : Int32) = bI (decide (mk = 0) || (decide (ow (mk - 1) < a) && decide (re (mk - 1) ≤ b))) := by first | (rw [show decide (mk = 0) = true from by simpa using n4]; rfl) | (rw [show decide (mk = 0) = false from by simpa using n4, show decide (ow (mk - 1) < a) = false from by simpa using c19]; rfl) | (rw [show decide (mk = 0) = false from by simpa using n4, show decide (ow (mk - 1) < a) = true from by simpa using c19, show decide (re (mk - 1) ≤ b) = true from by simpa using c34]; rfl) | (rw [show decide (mk = 0) = false from by simpa using n4, show decide (re (mk - 1) ≤ b) = false from by simpa using c34, Bool.and_false]; rfl)
        exact W.zret (v := 1) hx hb hr (by first | rfl | exact bI_nar _) (fun t ht _ => ⟨congrArg (fun z => Outcome.returned (some (Value.int z))) h9, ht⟩) (fun _ h => nomatch h) dX1_canFollow_42
end
section
/-! PURE WORDS: folds over a prefix -/
def oI (o : Option Nat) : Int32 := match o with
  | none => -1
  | some i => nI i
def anB (P : Nat → Bool) : Nat → Bool
  | 0 => false
  | n + 1 => anB P n || P n
def alB (P : Nat → Bool) : Nat → Bool
  | 0 => true
  | n + 1 => alB P n && P n
def ctB (P : Nat → Bool) : Nat → Nat
  | 0 => 0
  | n + 1 => ctB P n + (if P n then 1 else 0)
def fiB (P : Nat → Bool) : Nat → Option Nat
  | 0 => none
  | n + 1 => match fiB P n with
    | some i => some i
    | none => if P n then some n else none
theorem fiB_miss {P : Nat → Bool} {n : Nat} (h : fiB P n = none) (hp : P n = false) : fiB P (n + 1) = none := by simp [fiB, h, hp]
theorem fiB_hit {P : Nat → Bool} {i n : Nat} (h : fiB P i = none) (hp : P i = true) (hn : i < n) : fiB P n = some i := by
  induction n with
  | zero => omega
  | succ n ih =>
    by_cases hin : i < n
    · simp [fiB, ih hin]
    · have : i = n := by omega
      subst this
      simp [fiB, h, hp]
theorem fiB_mono {P : Nat → Bool} {m n k : Nat} (h : fiB P m = some k) (hmn : m ≤ n) : fiB P n = some k := by
  induction n with
  | zero =>
    have : m = 0 := by omega
    subst this; exact h
  | succ n ih =>
    by_cases h2 : m = n + 1
    · subst h2; exact h
    · simp [fiB, ih (by omega)]
theorem fiB_spec {P : Nat → Bool} {n : Nat} : ∀ {i : Nat}, fiB P n = some i → i < n ∧ P i = true ∧ ∀ j, j < i → P j = false := by
  induction n with
  | zero => intro i h; simp [fiB] at h
  | succ n ih =>
    intro i h
    simp only [fiB] at h
    cases hf : fiB P n with
    | some k =>
      rw [hf] at h
      cases h
      obtain ⟨h1, h2, h3⟩ := ih hf
      exact ⟨by omega, h2, h3⟩
    | none =>
      rw [hf] at h
      by_cases hp : P n = true
      · simp [hp] at h
        subst h
        refine ⟨by omega, hp, fun j hj => ?_⟩
        have key : ∀ m, m ≤ n → fiB P m = none := by
          intro m hm
          cases hq : fiB P m with
          | none => rfl
          | some k =>
            rw [fiB_mono hq hm] at hf
            cases hf
        have h1 := key (j + 1) (by omega)
        have h0 := key j (by omega)
        simp only [fiB, h0] at h1
        cases hpj : P j with
        | false => rfl
        | true => simp [hpj] at h1
      · simp [hp] at h
theorem fiB_congr {P Q : Nat → Bool} {n : Nat} (h : ∀ j, j < n → P j = Q j) : fiB P n = fiB Q n := by
  induction n with
  | zero => rfl
  | succ n ih => simp [fiB, ih (fun j hj => h j (by omega)), h n (by omega)]
theorem anB_congr {P Q : Nat → Bool} {n : Nat} (h : ∀ j, j < n → P j = Q j) : anB P n = anB Q n := by
  induction n with
  | zero => rfl
  | succ n ih => simp [anB, ih (fun j hj => h j (by omega)), h n (by omega)]
theorem alB_congr {P Q : Nat → Bool} {n : Nat} (h : ∀ j, j < n → P j = Q j) : alB P n = alB Q n := by
  induction n with
  | zero => rfl
  | succ n ih => simp [alB, ih (fun j hj => h j (by omega)), h n (by omega)]
theorem ctB_congr {P Q : Nat → Bool} {n : Nat} (h : ∀ j, j < n → P j = Q j) : ctB P n = ctB Q n := by
  induction n with
  | zero => rfl
  | succ n ih => simp [ctB, ih (fun j hj => h j (by omega)), h n (by omega)]
theorem ctB_t {P : Nat → Bool} {n : Nat} (h : P n = true) : ctB P (n + 1) = ctB P n + 1 := by simp [ctB, h]
theorem ctB_f {P : Nat → Bool} {n : Nat} (h : P n = false) : ctB P (n + 1) = ctB P n := by simp [ctB, h]
theorem ctB_le {P : Nat → Bool} {n : Nat} : ctB P n ≤ n := by
  induction n with
  | zero => exact Nat.le_refl _
  | succ n ih => simp only [ctB]; split <;> omega
theorem anB_hit {P : Nat → Bool} {i n : Nat} (hp : P i = true) (hn : i < n) : anB P n = true := by
  induction n with
  | zero => omega
  | succ n ih =>
    by_cases hin : i < n
    · simp [anB, ih hin]
    · have : i = n := by omega
      subst this
      simp [anB, hp]
theorem alB_miss {P : Nat → Bool} {i n : Nat} (hp : P i = false) (hn : i < n) : alB P n = false := by
  induction n with
  | zero => omega
  | succ n ih =>
    by_cases hin : i < n
    · simp [alB, ih hin]
    · have : i = n := by omega
      subst this
      simp [alB, hp]
/-- how many marks stand at or ahead of x, one behind the other -/
def mu (ow : Nat → Int32) (x : Int32) : Nat → Nat
  | 0 => 0
  | n + 1 => if mu ow x n = n ∧ ow n ≤ x then n + 1 else mu ow x n
theorem mu_step {ow : Nat → Int32} {x : Int32} {i : Nat} (h : mu ow x i = i) (hp : ow i ≤ x) : mu ow x (i + 1) = i + 1 := by simp [mu, h, hp]
theorem mu_stop {ow : Nat → Int32} {x : Int32} {i n : Nat} (h : mu ow x i = i) (hp : ¬ ow i ≤ x) (hn : i ≤ n) : mu ow x n = i := by
  induction n with
  | zero => have : i = 0 := by omega
            subst this; exact h
  | succ n ih =>
    by_cases hin : i = n + 1
    · subst hin; exact h
    · have h1 := ih (by omega)
      by_cases hi2 : i = n
      · subst hi2; simp [mu, h, hp]
      · simp [mu, h1, hi2]
theorem mu_le {ow : Nat → Int32} {x : Int32} {n : Nat} : mu ow x n ≤ n := by
  induction n with
  | zero => exact Nat.le_refl _
  | succ n ih => simp only [mu]; split <;> omega
def rb (ow re : Nat → Int32) (j : Nat) (x : Int32) : Int32 := if 0 < ow (j + 1) - ow j then re j + ((re (j + 1) - re j).toInt64 * (x - ow j).toInt64 / (ow (j + 1) - ow j).toInt64).toInt32 else re j
def rt (mk : Nat) (ow re : Nat → Int32) (x : Int32) : Int32 :=
  if mk = 0 then x else if 0 < mu ow x mk ∧ mu ow x mk < mk then rb ow re (mu ow x mk - 1) x else if mu ow x mk = 0 then x + (re 0 - ow 0) else x + (re (mk - 1) - ow (mk - 1))
theorem i64_ne {y : Int32} (h : 0 < y) : ¬ y.toInt64 = 0 := by
  intro e
  have h1 : y.toInt64.toInt = 0 := by rw [e]; rfl
  rw [Int32.toInt_toInt64] at h1
  have h2 : (0 : Int32).toInt < y.toInt := Int32.lt_iff_toInt_lt.mp h
  rw [h1] at h2
  exact absurd h2 (by decide)
end
section
set_option maxHeartbeats 4000000 in
set_option maxRecDepth 100000 in
/-- Tellings.find -/
theorem cX2_find_r {l : Launch} {D : va_G} {cA : Nat → ClassId} {adr : Nat → Nat} {n : Nat} {E : Nat → va_E} {k ct : Nat} {nm td : Nat → Nat} {vl : Nat → Int32} {sd : Nat → Bool} (hk : k + 4 < n) (hct : ct ≤ 120) (hE0 : E k = .inr (2, [.ref (adr (k + 1)), .ref (adr (k + 2)), .ref (adr (k + 3)), .ref (adr (k + 4)), .int (nI ct)])) (hE1 : E (k + 1) = .inl (cA 0, 120, .inl (fun j => nI (nm j)))) (hE2 : E (k + 2) = .inl (cA 0, 120, .inl (fun j => nI (td j)))) (hE3 : E (k + 3) = .inl (cA 0, 120, .inl vl)) (hE4 : E (k + 4) = .inl (cA 1, 120, .inl (fun j => bI (sd j)))) (hnm : ∀ j, nm j < 2560) (htd : ∀ j, td j < 2 ^ 30) {a b : Nat} (ha : a < 2560) (hb2 : b < 2 ^ 30) (v : Int32) : Met l yX2_find (.code yX2_find cX2_find 5 (some .int) :: lw_G) ({ frames := 0, cells := 0, slots := 0, locals := 0 } : Room) (va_Pc [.ref (adr k), .int (nI a), .int (nI b), .int v] (wdU D (kty cA) adr n E)) (QcRead (oI (fiB (fun j => decide (nm j = a) && decide (td j = b) && decide (vl j = v)) ct))) 0 0 (fun _ => False) := by
  refine Met.ofW (cc := cX2_find) (maxL := 5) (ret := (some .int)) (by decide) rfl ?_
  intro p e s m args below meth c s₁ B hml hv
  obtain ⟨rfl, hP, hN⟩ := hv
  have hx := B.exec
  have hb := B.bytes
  have hr := B.returns
  have hG : ∀ w ∈ lw_G, w.before _ s = true := fun w h => atoms_spec (ws := _ :: lw_G) B.pre w (List.mem_cons_of_mem _ h)
  have hown : s.vm.findClass RX2 = some m.cls := findClass_of_methodNamed B.named
  have hlocks := B.notSynchronized
  have hK := hN.1
  have hl := lv_entry ([.ref (adr k), .int (nI a), .int (nI b), .int v]) (n := 5) (Nat.le_of_ble_eq_true rfl)
  rw [lg_entry_eq]
  generalize (lg_sl ([.ref (adr k), .int (nI a), .int (nI b), .int v]) ++ List.replicate (5 - (lg_sl ([.ref (adr k), .int (nI a), .int (nI b), .int v])).length) Slot.unset).toArray = ls at hl ⊢
  have hl : lv_has ls 5 [(0, .ref (adr k)), (1, .int (nI a)), (2, .int (nI b)), (3, .int v)] := hl
  refine lv_iconst (v := 0) hx hb dX2_find_0 (by decide) ?_
  refine lv_istore (lv' := [(4, .int 0), (0, .ref (adr k)), (1, .int (nI a)), (2, .int (nI b)), (3, .int v)]) hx hb dX2_find_1 hl (by decide) rfl (fun ls hl => ?_)
  have L3 : ∀ (f : Nat) (i : Nat), ct - i < f → i ≤ ct → fiB (fun j => decide (nm j = a) && decide (td j = b) && decide (vl j = v)) i = none → ∀ ls : Array Slot, lv_has ls 5 [(4, .int (nI i)), (0, .ref (adr k)), (1, .int (nI a)), (2, .int (nI b)), (3, .int v)] → W p l e (headSpec (.code yX2_find cX2_find 5 (some .int) :: lw_G) ({ frames := 0, cells := 0, slots := 0, locals := 0 } : Room)).room s m [.ref (adr k), .int (nI a), .int (nI b), .int v].toArray below meth c s.heap [] 0 0 (MQ below (QcRead (oI (fiB (fun j => decide (nm j = a) && decide (td j = b) && decide (vl j = v)) ct))) [.ref (adr k), .int (nI a), .int (nI b), .int v].toArray s 0 0 (fun _ => False)) (F0 m 3 ls []) := by
    intro f
    induction f with
    | zero => intro i h0; exact absurd h0 (by omega)
    | succ f ih =>
      intro i hf hi hq ls hl
      refine lv_iload hx hb dX2_find_3 (lv_at hl 0 rfl) ?_
      refine lv_aload_n hx hb dX2_find_5 rfl (lv_at hl 1 rfl) ?_
      refine va_get (D := D) (ci := 2) (v := .int (nI ct)) (C := RX2) (T := TX2) (N := 5) hx hb hG inG_X2 hown hK hP k (wl_at (by omega) hE0) rfl 4 (by decide) (hG _ g_40) (fun _ h9 => h9) rfl dX2_find_6 ?_
      refine lv_icmp_ge (tgt := 54) hx hb dX2_find_9 (by decide) (fun c9 => ?_) (fun c9 => ?_)
      · have n9 : ct ≤ i := (nI_leI (a := ct) (b := i) (by omega) (by omega)).mp c9
        refine lv_iconst (v := (-1)) hx hb dX2_find_54 (by decide) ?_
        have h9 : ((-1) : Int32) = oI (fiB (fun j => decide (nm j = a) && decide (td j = b) && decide (vl j = v)) ct) := by rw [show ct = i from by omega, hq]; rfl
        exact W.iret (v := (-1)) hx hb hr (fun t ht _ => ⟨congrArg (fun z => Outcome.returned (some (Value.int z))) h9, ht⟩) (fun _ h => nomatch h) dX2_find_55
      · have n9 : ¬ ct ≤ i := fun h => c9 ((nI_leI (a := ct) (b := i) (by omega) (by omega)).mpr h)
        have b1 := hnm i
        have b2 := htd i
        refine lv_aload_n hx hb dX2_find_12 rfl (lv_at hl 1 rfl) ?_
        refine va_get (D := D) (ci := 2) (v := .ref (adr (k + 1))) (C := RX2) (T := TX2) (N := 5) hx hb hG inG_X2 hown hK hP k (wl_at (by omega) hE0) rfl 0 (by decide) (hG _ g_32) (fun _ h9 => h9) rfl dX2_find_13 ?_
        refine lv_iload hx hb dX2_find_16 (lv_at hl 0 rfl) ?_
        refine wn_iald (j := i) hx hb hK hP (by omega) hE1 (by omega) (by decide) dX2_find_18 ?_
        refine lv_iload_n hx hb dX2_find_19 rfl (lv_at hl 2 rfl) ?_
        refine lv_icmp_ne (tgt := 48) hx hb dX2_find_20 (by decide) (fun c20 => ?_) (fun c20 => ?_)
        · have n20 : ¬ (nm i) = a := fun h => c20 ((nI_eq (a := (nm i)) (b := a) (by omega) (by omega)).mpr h)
          refine lv_iinc (v := nI (i + 1)) (lv' := [(4, .int (nI (i + 1))), (0, .ref (adr k)), (1, .int (nI a)), (2, .int (nI b)), (3, .int v)]) hx hb dX2_find_48 hl (k := 0) rfl (nI_1 _) (by decide) rfl (fun ls hl => ?_)
          refine lv_goto (tgt := 3) hx hb dX2_find_51 (by decide) ?_
          exact ih (i + 1) (by omega) (by omega) (fiB_miss hq (by first | (rw [show decide (nm i = a) = false from by simpa using n20]; rfl) | (rw [show decide (td i = b) = false from by simpa using n31, Bool.and_false]; rfl) | (rw [show decide (vl i = v) = false from by simpa using c42, Bool.and_false]))) ls (lv_sub hl [0, 1, 2, 3, 4] rfl)
        · have n20 : (nm i) = a := (nI_eq (a := (nm i)) (b := a) (by omega) (by omega)).mp c20
          refine lv_aload_n hx hb dX2_find_23 rfl (lv_at hl 1 rfl) ?_
          refine va_get (D := D) (ci := 2) (v := .ref (adr (k + 2))) (C := RX2) (T := TX2) (N := 5) hx hb hG inG_X2 hown hK hP k (wl_at (by omega) hE0) rfl 1 (by decide) (hG _ g_34) (fun _ h9 => h9) rfl dX2_find_24 ?_
          refine lv_iload hx hb dX2_find_27 (lv_at hl 0 rfl) ?_
          refine wn_iald (j := i) hx hb hK hP (by omega) hE2 (by omega) (by decide) dX2_find_29 ?_
          refine lv_iload_n hx hb dX2_find_30 rfl (lv_at hl 3 rfl) ?_
          refine lv_icmp_ne (tgt := 48) hx hb dX2_find_31 (by decide) (fun c31 => ?_) (fun c31 => ?_)
          · have n31 : ¬ (td i) = b := fun h => c31 ((nI_eq (a := (td i)) (b := b) (by omega) (by omega)).mpr h)
            refine lv_iinc (v := nI (i + 1)) (lv' := [(4, .int (nI (i + 1))), (0, .ref (adr k)), (1, .int (nI a)), (2, .int (nI b)), (3, .int v)]) hx hb dX2_find_48 hl (k := 0) rfl (nI_1 _) (by decide) rfl (fun ls hl => ?_)
            refine lv_goto (tgt := 3) hx hb dX2_find_51 (by decide) ?_
            exact ih (i + 1) (by omega) (by omega) (fiB_miss hq (by first | (rw [show decide (nm i = a) = false from by simpa using n20]; rfl) | (rw [show decide (td i = b) = false from by simpa using n31, Bool.and_false]; rfl) | (rw [show decide (vl i = v) = false from by simpa using c42, Bool.and_false]))) ls (lv_sub hl [0, 1, 2, 3, 4] rfl)
          · have n31 : (td i) = b := (nI_eq (a := (td i)) (b := b) (by omega) (by omega)).mp c31
            refine lv_aload_n hx hb dX2_find_34 rfl (lv_at hl 1 rfl) ?_
            refine va_get (D := D) (ci := 2) (v := .ref (adr (k + 3))) (C := RX2) (T := TX2) (N := 5) hx hb hG inG_X2 hown hK hP k (wl_at (by omega) hE0) rfl 2 (by decide) (hG _ g_36) (fun _ h9 => h9) rfl dX2_find_35 ?_
            refine lv_iload hx hb dX2_find_38 (lv_at hl 0 rfl) ?_
            refine wn_iald (j := i) hx hb hK hP (by omega) hE3 (by omega) (by decide) dX2_find_40 ?_
            refine lv_iload_n hx hb dX2_find_41 rfl (lv_at hl 4 rfl) ?_
            refine lv_icmp_ne (tgt := 48) hx hb dX2_find_42 (by decide) (fun c42 => ?_) (fun c42 => ?_)
            · refine lv_iinc (v := nI (i + 1)) (lv' := [(4, .int (nI (i + 1))), (0, .ref (adr k)), (1, .int (nI a)), (2, .int (nI b)), (3, .int v)]) hx hb dX2_find_48 hl (k := 0) rfl (nI_1 _) (by decide) rfl (fun ls hl => ?_)
              refine lv_goto (tgt := 3) hx hb dX2_find_51 (by decide) ?_
              exact ih (i + 1) (by omega) (by omega) (fiB_miss hq (by first | (rw [show decide (nm i = a) = false from by simpa using n20]; rfl) | (rw [show decide (td i = b) = false from by simpa using n31, Bool.and_false]; rfl) | (rw [show decide (vl i = v) = false from by simpa using c42, Bool.and_false]))) ls (lv_sub hl [0, 1, 2, 3, 4] rfl)
            · refine lv_iload hx hb dX2_find_45 (lv_at hl 0 rfl) ?_
              have h9 : (nI i : Int32) = oI (fiB (fun j => decide (nm j = a) && decide (td j = b) && decide (vl j = v)) ct) := by rw [fiB_hit (P := fun j => decide (nm j = a) && decide (td j = b) && decide (vl j = v)) hq (by rw [show decide (nm i = a) = true from by simpa using n20, show decide (td i = b) = true from by simpa using n31, show decide (vl i = v) = true from by simpa using c42]; rfl) (by omega : i < ct)]; rfl
              exact W.iret (v := nI i) hx hb hr (fun t ht _ => ⟨congrArg (fun z => Outcome.returned (some (Value.int z))) h9, ht⟩) (fun _ h => nomatch h) dX2_find_47
  exact L3 (ct + 1) 0 (by omega) (by omega) rfl ls (lv_sub hl [0, 1, 2, 3, 4] rfl)

set_option maxHeartbeats 4000000 in
set_option maxRecDepth 100000 in
/-- Tellings.findKth -/
theorem cX2_findKth_r {l : Launch} {D : va_G} {cA : Nat → ClassId} {adr : Nat → Nat} {n : Nat} {E : Nat → va_E} {k ct : Nat} {nm td : Nat → Nat} {vl : Nat → Int32} {sd : Nat → Bool} (hk : k + 4 < n) (hct : ct ≤ 120) (hE0 : E k = .inr (2, [.ref (adr (k + 1)), .ref (adr (k + 2)), .ref (adr (k + 3)), .ref (adr (k + 4)), .int (nI ct)])) (hE1 : E (k + 1) = .inl (cA 0, 120, .inl (fun j => nI (nm j)))) (hE2 : E (k + 2) = .inl (cA 0, 120, .inl (fun j => nI (td j)))) (hE3 : E (k + 3) = .inl (cA 0, 120, .inl vl)) (hE4 : E (k + 4) = .inl (cA 1, 120, .inl (fun j => bI (sd j)))) (hnm : ∀ j, nm j < 2560) (htd : ∀ j, td j < 2 ^ 30) {a q : Nat} (ha : a < 2 ^ 31) (hq2 : q < 2 ^ 31) : Met l yX2_findKth (.code yX2_findKth cX2_findKth 5 (some .int) :: lw_G) ({ frames := 0, cells := 0, slots := 0, locals := 0 } : Room) (va_Pc [.ref (adr k), .int (nI a), .int (nI q)] (wdU D (kty cA) adr n E)) (QcRead (oI (fiB (fun j => decide (nm j = a) && decide (ctB (fun j => decide (nm j = a)) j = q)) ct))) 0 0 (fun _ => False) := by
  refine Met.ofW (cc := cX2_findKth) (maxL := 5) (ret := (some .int)) (by decide) rfl ?_
  intro p e s m args below meth c s₁ B hml hv
  obtain ⟨rfl, hP, hN⟩ := hv
  have hx := B.exec
  have hb := B.bytes
  have hr := B.returns
  have hG : ∀ w ∈ lw_G, w.before _ s = true := fun w h => atoms_spec (ws := _ :: lw_G) B.pre w (List.mem_cons_of_mem _ h)
  have hown : s.vm.findClass RX2 = some m.cls := findClass_of_methodNamed B.named
  have hlocks := B.notSynchronized
  have hK := hN.1
  have hl := lv_entry ([.ref (adr k), .int (nI a), .int (nI q)]) (n := 5) (Nat.le_of_ble_eq_true rfl)
  rw [lg_entry_eq]
  generalize (lg_sl ([.ref (adr k), .int (nI a), .int (nI q)]) ++ List.replicate (5 - (lg_sl ([.ref (adr k), .int (nI a), .int (nI q)])).length) Slot.unset).toArray = ls at hl ⊢
  have hl : lv_has ls 5 [(0, .ref (adr k)), (1, .int (nI a)), (2, .int (nI q))] := hl
  refine lv_iload_n hx hb dX2_findKth_0 rfl (lv_at hl 2 rfl) ?_
  refine lv_istore_n (lv' := [(3, .int (nI q)), (0, .ref (adr k)), (1, .int (nI a)), (2, .int (nI q))]) hx hb dX2_findKth_1 rfl hl (by decide) rfl (fun ls hl => ?_)
  refine lv_iconst (v := 0) hx hb dX2_findKth_2 (by decide) ?_
  refine lv_istore (lv' := [(4, .int 0), (3, .int (nI q)), (0, .ref (adr k)), (1, .int (nI a)), (2, .int (nI q))]) hx hb dX2_findKth_3 hl (by decide) rfl (fun ls hl => ?_)
  have L5 : ∀ (f : Nat) (i : Nat), ct - i < f → i ≤ ct → ctB (fun j => decide (nm j = a)) i ≤ q → fiB (fun j => decide (nm j = a) && decide (ctB (fun j => decide (nm j = a)) j = q)) i = none → ∀ ls : Array Slot, lv_has ls 5 [(4, .int (nI i)), (3, .int (nI (q - ctB (fun j => decide (nm j = a)) i))), (0, .ref (adr k)), (1, .int (nI a)), (2, .int (nI q))] → W p l e (headSpec (.code yX2_findKth cX2_findKth 5 (some .int) :: lw_G) ({ frames := 0, cells := 0, slots := 0, locals := 0 } : Room)).room s m [.ref (adr k), .int (nI a), .int (nI q)].toArray below meth c s.heap [] 0 0 (MQ below (QcRead (oI (fiB (fun j => decide (nm j = a) && decide (ctB (fun j => decide (nm j = a)) j = q)) ct))) [.ref (adr k), .int (nI a), .int (nI q)].toArray s 0 0 (fun _ => False)) (F0 m 5 ls []) := by
    intro f
    induction f with
    | zero => intro i h0; exact absurd h0 (by omega)
    | succ f ih =>
      intro i hf hi hc hq ls hl
      refine lv_iload hx hb dX2_findKth_5 (lv_at hl 0 rfl) ?_
      refine lv_aload_n hx hb dX2_findKth_7 rfl (lv_at hl 2 rfl) ?_
      refine va_get (D := D) (ci := 2) (v := .int (nI ct)) (C := RX2) (T := TX2) (N := 5) hx hb hG inG_X2 hown hK hP k (wl_at (by omega) hE0) rfl 4 (by decide) (hG _ g_40) (fun _ h9 => h9) rfl dX2_findKth_8 ?_
      refine lv_icmp_ge (tgt := 41) hx hb dX2_findKth_11 (by decide) (fun c11 => ?_) (fun c11 => ?_)
      · have n11 : ct ≤ i := (nI_leI (a := ct) (b := i) (by omega) (by omega)).mp c11
        refine lv_iconst (v := (-1)) hx hb dX2_findKth_41 (by decide) ?_
        have h9 : ((-1) : Int32) = oI (fiB (fun j => decide (nm j = a) && decide (ctB (fun j => decide (nm j = a)) j = q)) ct) := by rw [show ct = i from by omega, hq]; rfl
        exact W.iret (v := (-1)) hx hb hr (fun t ht _ => ⟨congrArg (fun z => Outcome.returned (some (Value.int z))) h9, ht⟩) (fun _ h => nomatch h) dX2_findKth_42
      · have n11 : ¬ ct ≤ i := fun h => c11 ((nI_leI (a := ct) (b := i) (by omega) (by omega)).mpr h)
        have b1 := hnm i
        refine lv_aload_n hx hb dX2_findKth_14 rfl (lv_at hl 2 rfl) ?_
        refine va_get (D := D) (ci := 2) (v := .ref (adr (k + 1))) (C := RX2) (T := TX2) (N := 5) hx hb hG inG_X2 hown hK hP k (wl_at (by omega) hE0) rfl 0 (by decide) (hG _ g_32) (fun _ h9 => h9) rfl dX2_findKth_15 ?_
        refine lv_iload hx hb dX2_findKth_18 (lv_at hl 0 rfl) ?_
        refine wn_iald (j := i) hx hb hK hP (by omega) hE1 (by omega) (by decide) dX2_findKth_20 ?_
        refine lv_iload_n hx hb dX2_findKth_21 rfl (lv_at hl 3 rfl) ?_
        refine lv_icmp_ne (tgt := 35) hx hb dX2_findKth_22 (by decide) (fun c22 => ?_) (fun c22 => ?_)
        · have n22 : ¬ (nm i) = a := fun h => c22 ((nI_eq (a := (nm i)) (b := a) (by omega) (by omega)).mpr h)
          have hcs : ctB (fun j => decide (nm j = a)) (i + 1) = ctB (fun j => decide (nm j = a)) i := ctB_f (by simpa using n22)
          rw [← hcs] at hl
          refine lv_iinc (v := nI (i + 1)) (lv' := [(4, .int (nI (i + 1))), (3, .int (nI (q - ctB (fun j => decide (nm j = a)) (i + 1)))), (0, .ref (adr k)), (1, .int (nI a)), (2, .int (nI q))]) hx hb dX2_findKth_35 hl (k := 0) rfl (nI_1 _) (by decide) rfl (fun ls hl => ?_)
          refine lv_goto (tgt := 5) hx hb dX2_findKth_38 (by decide) ?_
          exact ih (i + 1) (by omega) (by omega) (by omega) (fiB_miss hq (by rw [show decide (nm i = a) = false from by simpa using n22]; rfl)) ls (lv_sub hl [0, 1, 2, 3, 4] rfl)
        · have n22 : (nm i) = a := (nI_eq (a := (nm i)) (b := a) (by omega) (by omega)).mp c22
          have hcs : ctB (fun j => decide (nm j = a)) (i + 1) = ctB (fun j => decide (nm j = a)) i + 1 := ctB_t (by simpa using n22)
          refine lv_iload_n hx hb dX2_findKth_25 rfl (lv_at hl 1 rfl) ?_
          refine lv_if_ne (tgt := 32) hx hb dX2_findKth_26 (by decide) (fun c26 => ?_) (fun c26 => ?_)
          · have n26 : ¬ (q - ctB (fun j => decide (nm j = a)) i) = 0 := fun h => c26 ((nI_eq (a := (q - ctB (fun j => decide (nm j = a)) i)) (b := 0) (by omega) (by omega)).mpr h)
            refine lv_iinc (v := nI (q - ctB (fun j => decide (nm j = a)) (i + 1))) (lv' := [(3, .int (nI (q - ctB (fun j => decide (nm j = a)) (i + 1)))), (4, .int (nI i)), (0, .ref (adr k)), (1, .int (nI a)), (2, .int (nI q))]) hx hb dX2_findKth_32 hl (k := 1) rfl (by rw [hcs]; obtain ⟨z, hz⟩ : ∃ z, q - ctB (fun j => decide (nm j = a)) i = z + 1 := ⟨q - ctB (fun j => decide (nm j = a)) i - 1, by omega⟩; rw [hz, show q - (ctB (fun j => decide (nm j = a)) i + 1) = z from by omega]; exact pk_m1 z) (by decide) rfl (fun ls hl => ?_)
            refine lv_iinc (v := nI (i + 1)) (lv' := [(4, .int (nI (i + 1))), (3, .int (nI (q - ctB (fun j => decide (nm j = a)) (i + 1)))), (0, .ref (adr k)), (1, .int (nI a)), (2, .int (nI q))]) hx hb dX2_findKth_35 hl (k := 1) rfl (nI_1 _) (by decide) rfl (fun ls hl => ?_)
            refine lv_goto (tgt := 5) hx hb dX2_findKth_38 (by decide) ?_
            exact ih (i + 1) (by omega) (by omega) (by omega) (fiB_miss hq (by rw [show decide (ctB (fun j => decide (nm j = a)) i = q) = false from by simp; omega, Bool.and_false])) ls (lv_sub hl [0, 1, 2, 3, 4] rfl)
          · have n26 : (q - ctB (fun j => decide (nm j = a)) i) = 0 := (nI_eq (a := (q - ctB (fun j => decide (nm j = a)) i)) (b := 0) (by omega) (by omega)).mp c26
            refine lv_iload hx hb dX2_findKth_29 (lv_at hl 0 rfl) ?_
            have h9 : (nI i : Int32) = oI (fiB (fun j => decide (nm j = a) && decide (ctB (fun j => decide (nm j = a)) j = q)) ct) := by rw [fiB_hit (P := fun j => decide (nm j = a) && decide (ctB (fun j => decide (nm j = a)) j = q)) hq (by rw [show decide (nm i = a) = true from by simpa using n22, show decide (ctB (fun j => decide (nm j = a)) i = q) = true from by simp; omega]; rfl) (by omega : i < ct)]; rfl
            exact W.iret (v := nI i) hx hb hr (fun t ht _ => ⟨congrArg (fun z => Outcome.returned (some (Value.int z))) h9, ht⟩) (fun _ h => nomatch h) dX2_findKth_31
  exact L5 (ct + 1) 0 (by omega) (by omega) (Nat.zero_le _) rfl ls (lv_sub hl [0, 1, 2, 3, 4] rfl)

set_option maxHeartbeats 4000000 in
set_option maxRecDepth 100000 in
theorem cX1_marksUpTo_r {l : Launch} {D : va_G} {cA : Nat → ClassId} {adr : Nat → Nat} {n : Nat} {E : Nat → va_E} {k mk lf : Nat} {ow re : Nat → Int32} (hk : k + 2 < n) (hm : mk ≤ 6) (hE0 : E k = .inr (1, [.ref (adr (k + 1)), .ref (adr (k + 2)), .int (nI mk), .int (nI lf)])) (hE1 : E (k + 1) = .inl (cA 0, 6, .inl ow)) (hE2 : E (k + 2) = .inl (cA 0, 6, .inl re)) (x : Int32) : Met l yX1_marksUpTo (.code yX1_marksUpTo cX1_marksUpTo 3 (some .int) :: lw_G) ({ frames := 0, cells := 0, slots := 0, locals := 0 } : Room) (va_Pc [.ref (adr k), .int x] (wdU D (kty cA) adr n E)) (QcRead (nI (mu ow x mk))) 0 0 (fun _ => False) := by
  refine Met.ofW (cc := cX1_marksUpTo) (maxL := 3) (ret := (some .int)) (by decide) rfl ?_
  intro p e s m args below meth c s₁ B hml hv
  obtain ⟨rfl, hP, hN⟩ := hv
  have hx := B.exec
  have hb := B.bytes
  have hr := B.returns
  have hG : ∀ w ∈ lw_G, w.before _ s = true := fun w h => atoms_spec (ws := _ :: lw_G) B.pre w (List.mem_cons_of_mem _ h)
  have hown : s.vm.findClass RX1 = some m.cls := findClass_of_methodNamed B.named
  have hlocks := B.notSynchronized
  have hK := hN.1
  have hl := lv_entry ([.ref (adr k), .int x]) (n := 3) (Nat.le_of_ble_eq_true rfl)
  rw [lg_entry_eq]
  generalize (lg_sl ([.ref (adr k), .int x]) ++ List.replicate (3 - (lg_sl ([.ref (adr k), .int x])).length) Slot.unset).toArray = ls at hl ⊢
  have hl : lv_has ls 3 [(0, .ref (adr k)), (1, .int x)] := hl
  refine lv_iconst (v := 0) hx hb dX1_marksUpTo_0 (by decide) ?_
  refine lv_istore_n (lv' := [(2, .int 0), (0, .ref (adr k)), (1, .int x)]) hx hb dX1_marksUpTo_1 rfl hl (by decide) rfl (fun ls hl => ?_)
  have L2 : ∀ (f : Nat) (i : Nat), mk - i < f → i ≤ mk → mu ow x i = i → ∀ ls : Array Slot, lv_has ls 3 [(2, .int (nI i)), (0, .ref (adr k)), (1, .int x)] → W p l e (headSpec (.code yX1_marksUpTo cX1_marksUpTo 3 (some .int) :: lw_G) ({ frames := 0, cells := 0, slots := 0, locals := 0 } : Room)).room s m [.ref (adr k), .int x].toArray below meth c s.heap [] 0 0 (MQ below (QcRead (nI (mu ow x mk))) [.ref (adr k), .int x].toArray s 0 0 (fun _ => False)) (F0 m 2 ls []) := by
    intro f
    induction f with
    | zero => intro i h0; exact absurd h0 (by omega)
    | succ f ih =>
      intro i hf hi hq ls hl
      refine lv_iload_n hx hb dX1_marksUpTo_2 rfl (lv_at hl 0 rfl) ?_
      refine lv_aload_n hx hb dX1_marksUpTo_3 rfl (lv_at hl 1 rfl) ?_
      refine va_get (D := D) (ci := 1) (v := .int (nI mk)) (C := RX1) (T := TX1) (N := 4) hx hb hG inG_X1 hown hK hP k (wl_at (by omega) hE0) rfl 2 (by decide) (hG _ g_62) (fun _ h9 => h9) rfl dX1_marksUpTo_4 ?_
      refine lv_icmp_ge (tgt := 26) hx hb dX1_marksUpTo_7 (by decide) (fun c7 => ?_) (fun c7 => ?_)
      · have n7 : mk ≤ i := (nI_leI (a := mk) (b := i) (by omega) (by omega)).mp c7
        refine lv_iload_n hx hb dX1_marksUpTo_26 rfl (lv_at hl 0 rfl) ?_
        have h9 : (nI i : Int32) = nI (mu ow x mk) := by first | (rw [mu_stop hq (by simpa using c17) hi]) | (rw [show mk = i from by omega, hq])
        exact W.iret (v := nI i) hx hb hr (fun t ht _ => ⟨congrArg (fun z => Outcome.returned (some (Value.int z))) h9, ht⟩) (fun _ h => nomatch h) dX1_marksUpTo_27
      · have n7 : ¬ mk ≤ i := fun h => c7 ((nI_leI (a := mk) (b := i) (by omega) (by omega)).mpr h)
        refine lv_aload_n hx hb dX1_marksUpTo_10 rfl (lv_at hl 1 rfl) ?_
        refine va_get (D := D) (ci := 1) (v := .ref (adr (k + 1))) (C := RX1) (T := TX1) (N := 4) hx hb hG inG_X1 hown hK hP k (wl_at (by omega) hE0) rfl 0 (by decide) (hG _ g_60) (fun _ h9 => h9) rfl dX1_marksUpTo_11 ?_
        refine lv_iload_n hx hb dX1_marksUpTo_14 rfl (lv_at hl 0 rfl) ?_
        refine wn_iald (j := i) hx hb hK hP (by omega) hE1 (by omega) (by decide) dX1_marksUpTo_15 ?_
        refine lv_iload_n hx hb dX1_marksUpTo_16 rfl (lv_at hl 2 rfl) ?_
        refine lv_icmp_gt (tgt := 26) hx hb dX1_marksUpTo_17 (by decide) (fun c17 => ?_) (fun c17 => ?_)
        · refine lv_iload_n hx hb dX1_marksUpTo_26 rfl (lv_at hl 0 rfl) ?_
          have h9 : (nI i : Int32) = nI (mu ow x mk) := by first | (rw [mu_stop hq (by simpa using c17) hi]) | (rw [show mk = i from by omega, hq])
          exact W.iret (v := nI i) hx hb hr (fun t ht _ => ⟨congrArg (fun z => Outcome.returned (some (Value.int z))) h9, ht⟩) (fun _ h => nomatch h) dX1_marksUpTo_27
        · refine lv_iinc (v := nI (i + 1)) (lv' := [(2, .int (nI (i + 1))), (0, .ref (adr k)), (1, .int x)]) hx hb dX1_marksUpTo_20 hl (k := 0) rfl (nI_1 _) (by decide) rfl (fun ls hl => ?_)
          refine lv_goto (tgt := 2) hx hb dX1_marksUpTo_23 (by decide) ?_
          exact ih (i + 1) (by omega) (by omega) (mu_step hq (by simpa using c17)) ls (lv_sub hl [0, 1, 2] rfl)
  exact L2 (mk + 1) 0 (by omega) (by omega) rfl ls (lv_sub hl [0, 1, 2] rfl)

set_option maxHeartbeats 4000000 in
set_option maxRecDepth 100000 in
theorem cX1_realBetween_r {l : Launch} {D : va_G} {cA : Nat → ClassId} {adr : Nat → Nat} {n : Nat} {E : Nat → va_E} {k mk lf : Nat} {ow re : Nat → Int32} (hk : k + 2 < n) (hm : mk ≤ 6) (hE0 : E k = .inr (1, [.ref (adr (k + 1)), .ref (adr (k + 2)), .int (nI mk), .int (nI lf)])) (hE1 : E (k + 1) = .inl (cA 0, 6, .inl ow)) (hE2 : E (k + 2) = .inl (cA 0, 6, .inl re)) {j : Nat} (hj : j + 1 < 6) (x : Int32) : Met l yX1_realBetween (.code yX1_realBetween cX1_realBetween 6 (some .int) :: lw_G) ({ frames := 0, cells := 0, slots := 0, locals := 0 } : Room) (va_Pc [.ref (adr k), .int (nI j), .int x] (wdU D (kty cA) adr n E)) (QcRead (rb ow re j x)) 0 0 (fun _ => False) := by
  refine Met.ofW (cc := cX1_realBetween) (maxL := 6) (ret := (some .int)) (by decide) rfl ?_
  intro p e s m args below meth c s₁ B hml hv
  obtain ⟨rfl, hP, hN⟩ := hv
  have hx := B.exec
  have hb := B.bytes
  have hr := B.returns
  have hG : ∀ w ∈ lw_G, w.before _ s = true := fun w h => atoms_spec (ws := _ :: lw_G) B.pre w (List.mem_cons_of_mem _ h)
  have hown : s.vm.findClass RX1 = some m.cls := findClass_of_methodNamed B.named
  have hlocks := B.notSynchronized
  have hK := hN.1
  have hl := lv_entry ([.ref (adr k), .int (nI j), .int x]) (n := 6) (Nat.le_of_ble_eq_true rfl)
  rw [lg_entry_eq]
  generalize (lg_sl ([.ref (adr k), .int (nI j), .int x]) ++ List.replicate (6 - (lg_sl ([.ref (adr k), .int (nI j), .int x])).length) Slot.unset).toArray = ls at hl ⊢
  have hl : lv_has ls 6 [(0, .ref (adr k)), (1, .int (nI j)), (2, .int x)] := hl
  refine lv_aload_n hx hb dX1_realBetween_0 rfl (lv_at hl 0 rfl) ?_
  refine va_get (D := D) (ci := 1) (v := .ref (adr (k + 1))) (C := RX1) (T := TX1) (N := 4) hx hb hG inG_X1 hown hK hP k (wl_at (by omega) hE0) rfl 0 (by decide) (hG _ g_60) (fun _ h9 => h9) rfl dX1_realBetween_1 ?_
  refine lv_iload_n hx hb dX1_realBetween_4 rfl (lv_at hl 1 rfl) ?_
  refine lv_iconst (v := 1) hx hb dX1_realBetween_5 (by decide) ?_
  refine lv_iadd hx hb dX1_realBetween_6 ?_
  refine lv_topi (fun y9 e9 => ?_)
  have e9 : y9 = nI (j + 1) := e9.trans (nI_1 j)
  subst e9
  refine wn_iald (j := (j + 1)) hx hb hK hP (by omega) hE1 (by omega) (by decide) dX1_realBetween_7 ?_
  refine lv_aload_n hx hb dX1_realBetween_8 rfl (lv_at hl 0 rfl) ?_
  refine va_get (D := D) (ci := 1) (v := .ref (adr (k + 1))) (C := RX1) (T := TX1) (N := 4) hx hb hG inG_X1 hown hK hP k (wl_at (by omega) hE0) rfl 0 (by decide) (hG _ g_60) (fun _ h9 => h9) rfl dX1_realBetween_9 ?_
  refine lv_iload_n hx hb dX1_realBetween_12 rfl (lv_at hl 1 rfl) ?_
  refine wn_iald (j := j) hx hb hK hP (by omega) hE1 (by omega) (by decide) dX1_realBetween_13 ?_
  refine lv_isub hx hb dX1_realBetween_14 ?_
  refine lv_istore_n (lv' := [(3, .int ((ow (j + 1)) - (ow j))), (0, .ref (adr k)), (1, .int (nI j)), (2, .int x)]) hx hb dX1_realBetween_15 rfl hl (by decide) rfl (fun ls hl => ?_)
  refine lv_iload_n hx hb dX1_realBetween_16 rfl (lv_at hl 0 rfl) ?_
  refine lv_if_gt (tgt := 27) hx hb dX1_realBetween_17 (by decide) (fun c17 => ?_) (fun c17 => ?_)
  · refine lv_aload_n hx hb dX1_realBetween_27 rfl (lv_at hl 1 rfl) ?_
    refine va_get (D := D) (ci := 1) (v := .ref (adr (k + 2))) (C := RX1) (T := TX1) (N := 4) hx hb hG inG_X1 hown hK hP k (wl_at (by omega) hE0) rfl 1 (by decide) (hG _ g_61) (fun _ h9 => h9) rfl dX1_realBetween_28 ?_
    refine lv_iload_n hx hb dX1_realBetween_31 rfl (lv_at hl 2 rfl) ?_
    refine lv_iconst (v := 1) hx hb dX1_realBetween_32 (by decide) ?_
    refine lv_iadd hx hb dX1_realBetween_33 ?_
    refine lv_topi (fun y9 e9 => ?_)
    have e9 : y9 = nI (j + 1) := e9.trans (nI_1 j)
    subst e9
    refine wn_iald (j := (j + 1)) hx hb hK hP (by omega) hE2 (by omega) (by decide) dX1_realBetween_34 ?_
    refine lv_aload_n hx hb dX1_realBetween_35 rfl (lv_at hl 1 rfl) ?_
    refine va_get (D := D) (ci := 1) (v := .ref (adr (k + 2))) (C := RX1) (T := TX1) (N := 4) hx hb hG inG_X1 hown hK hP k (wl_at (by omega) hE0) rfl 1 (by decide) (hG _ g_61) (fun _ h9 => h9) rfl dX1_realBetween_36 ?_
    refine lv_iload_n hx hb dX1_realBetween_39 rfl (lv_at hl 2 rfl) ?_
    refine wn_iald (j := j) hx hb hK hP (by omega) hE2 (by omega) (by decide) dX1_realBetween_40 ?_
    refine lv_isub hx hb dX1_realBetween_41 ?_
    refine lv_i2l (v := ((re (j + 1)) - (re j)).toInt64) hx hb dX1_realBetween_42 rfl ?_
    refine lv_lstore (lv' := [(4, .long (((re (j + 1)) - (re j)).toInt64)), (3, .int ((ow (j + 1)) - (ow j))), (0, .ref (adr k)), (1, .int (nI j)), (2, .int x)]) hx hb dX1_realBetween_43 hl (by decide) rfl (fun ls hl => ?_)
    refine lv_aload_n hx hb dX1_realBetween_45 rfl (lv_at hl 2 rfl) ?_
    refine va_get (D := D) (ci := 1) (v := .ref (adr (k + 2))) (C := RX1) (T := TX1) (N := 4) hx hb hG inG_X1 hown hK hP k (wl_at (by omega) hE0) rfl 1 (by decide) (hG _ g_61) (fun _ h9 => h9) rfl dX1_realBetween_46 ?_
    refine lv_iload_n hx hb dX1_realBetween_49 rfl (lv_at hl 3 rfl) ?_
    refine wn_iald (j := j) hx hb hK hP (by omega) hE2 (by omega) (by decide) dX1_realBetween_50 ?_
    refine lv_lload hx hb dX1_realBetween_51 (lv_at hl 0 rfl) ?_
    refine lv_iload_n hx hb dX1_realBetween_53 rfl (lv_at hl 4 rfl) ?_
    refine lv_aload_n hx hb dX1_realBetween_54 rfl (lv_at hl 2 rfl) ?_
    refine va_get (D := D) (ci := 1) (v := .ref (adr (k + 1))) (C := RX1) (T := TX1) (N := 4) hx hb hG inG_X1 hown hK hP k (wl_at (by omega) hE0) rfl 0 (by decide) (hG _ g_60) (fun _ h9 => h9) rfl dX1_realBetween_55 ?_
    refine lv_iload_n hx hb dX1_realBetween_58 rfl (lv_at hl 3 rfl) ?_
    refine wn_iald (j := j) hx hb hK hP (by omega) hE1 (by omega) (by decide) dX1_realBetween_59 ?_
    refine lv_isub hx hb dX1_realBetween_60 ?_
    refine lv_i2l (v := (x - (ow j)).toInt64) hx hb dX1_realBetween_61 rfl ?_
    refine lv_lmul hx hb dX1_realBetween_62 ?_
    refine lv_iload_n hx hb dX1_realBetween_63 rfl (lv_at hl 1 rfl) ?_
    refine lv_i2l (v := ((ow (j + 1)) - (ow j)).toInt64) hx hb dX1_realBetween_64 rfl ?_
    refine lv_ldiv hx hb dX1_realBetween_65 (i64_ne c17) ?_
    refine lv_l2i (v := (((((re (j + 1)) - (re j)).toInt64) * ((x - (ow j)).toInt64)) / (((ow (j + 1)) - (ow j)).toInt64)).toInt32) hx hb dX1_realBetween_66 rfl ?_
    refine lv_iadd hx hb dX1_realBetween_67 ?_
    have h9 : ((re j) + ((((((re (j + 1)) - (re j)).toInt64) * ((x - (ow j)).toInt64)) / (((ow (j + 1)) - (ow j)).toInt64)).toInt32) : Int32) = rb ow re j x := by unfold rb; first | (rw [if_pos c17]; done) | (rw [if_neg c17]; done)
    exact W.iret (v := (re j) + ((((((re (j + 1)) - (re j)).toInt64) * ((x - (ow j)).toInt64)) / (((ow (j + 1)) - (ow j)).toInt64)).toInt32)) hx hb hr (fun t ht _ => ⟨congrArg (fun z => Outcome.returned (some (Value.int z))) h9, ht⟩) (fun _ h => nomatch h) dX1_realBetween_68
  · refine lv_aload_n hx hb dX1_realBetween_20 rfl (lv_at hl 1 rfl) ?_
    refine va_get (D := D) (ci := 1) (v := .ref (adr (k + 2))) (C := RX1) (T := TX1) (N := 4) hx hb hG inG_X1 hown hK hP k (wl_at (by omega) hE0) rfl 1 (by decide) (hG _ g_61) (fun _ h9 => h9) rfl dX1_realBetween_21 ?_
    refine lv_iload_n hx hb dX1_realBetween_24 rfl (lv_at hl 2 rfl) ?_
    refine wn_iald (j := j) hx hb hK hP (by omega) hE2 (by omega) (by decide) dX1_realBetween_25 ?_
    have h9 : (re j : Int32) = rb ow re j x := by unfold rb; first | (rw [if_pos c17]; done) | (rw [if_neg c17]; done)
    exact W.iret (v := re j) hx hb hr (fun t ht _ => ⟨congrArg (fun z => Outcome.returned (some (Value.int z))) h9, ht⟩) (fun _ h => nomatch h) dX1_realBetween_26

set_option maxHeartbeats 4000000 in
set_option maxRecDepth 100000 in
theorem cX1_realTime_r {l : Launch} {D : va_G} {cA : Nat → ClassId} {adr : Nat → Nat} {n : Nat} {E : Nat → va_E} {k mk lf : Nat} {ow re : Nat → Int32} (hk : k + 2 < n) (hm : mk ≤ 6) (hE0 : E k = .inr (1, [.ref (adr (k + 1)), .ref (adr (k + 2)), .int (nI mk), .int (nI lf)])) (hE1 : E (k + 1) = .inl (cA 0, 6, .inl ow)) (hE2 : E (k + 2) = .inl (cA 0, 6, .inl re)) (x : Int32) : Met l yX1_realTime (.code yX1_realTime cX1_realTime 4 (some .int) :: lw_G) ({ frames := 1, cells := 0, slots := 0, locals := 25 } : Room) (va_Pc [.ref (adr k), .int x] (wdU D (kty cA) adr n E)) (QcRead (rt mk ow re x)) 0 0 (fun _ => False) := by
  refine Met.ofW (cc := cX1_realTime) (maxL := 4) (ret := (some .int)) (by decide) rfl ?_
  intro p e s m args below meth c s₁ B hml hv
  obtain ⟨rfl, hP, hN⟩ := hv
  have hx := B.exec
  have hb := B.bytes
  have hr := B.returns
  have hG : ∀ w ∈ lw_G, w.before _ s = true := fun w h => atoms_spec (ws := _ :: lw_G) B.pre w (List.mem_cons_of_mem _ h)
  have hown : s.vm.findClass RX1 = some m.cls := findClass_of_methodNamed B.named
  have hlocks := B.notSynchronized
  have hK := hN.1
  have hl := lv_entry ([.ref (adr k), .int x]) (n := 4) (Nat.le_of_ble_eq_true rfl)
  rw [lg_entry_eq]
  generalize (lg_sl ([.ref (adr k), .int x]) ++ List.replicate (4 - (lg_sl ([.ref (adr k), .int x])).length) Slot.unset).toArray = ls at hl ⊢
  have hl : lv_has ls 4 [(0, .ref (adr k)), (1, .int x)] := hl
  have b0 := mu_le (ow := ow) (x := x) (n := mk)
  refine lv_aload_n hx hb dX1_realTime_0 rfl (lv_at hl 0 rfl) ?_
  refine va_get (D := D) (ci := 1) (v := .int (nI mk)) (C := RX1) (T := TX1) (N := 4) hx hb hG inG_X1 hown hK hP k (wl_at (by omega) hE0) rfl 2 (by decide) (hG _ g_62) (fun _ h9 => h9) rfl dX1_realTime_1 ?_
  refine lv_if_ne (tgt := 9) hx hb dX1_realTime_4 (by decide) (fun c4 => ?_) (fun c4 => ?_)
  · have n4 : ¬ mk = 0 := fun h => c4 ((nI_eq (a := mk) (b := 0) (by omega) (by omega)).mpr h)
    refine lv_aload_n hx hb dX1_realTime_9 rfl (lv_at hl 0 rfl) ?_
    refine lv_iload_n hx hb dX1_realTime_10 rfl (lv_at hl 1 rfl) ?_
    refine wn_rV (rest := []) hx hb hml hown hG hN hP (cX1_marksUpTo_r hk hm hE0 hE1 hE2 x) (cwV 1 hG (gV g_250 g_251 g_252 g_3 g_253) rfl rfl rfl (by decide +kernel) ⟨Nat.le_of_ble_eq_true rfl, Nat.le_of_ble_eq_true rfl⟩) (by omega) hE0 rfl rfl hl.1 rfl (Nat.le_of_ble_eq_true rfl) dX1_realTime_11 ⟨Nat.zero_le _, Nat.zero_le _⟩ ?_
    refine lv_istore_n (lv' := [(2, .int (nI (mu ow x mk))), (0, .ref (adr k)), (1, .int x)]) hx hb dX1_realTime_14 rfl hl (by decide) rfl (fun ls hl => ?_)
    refine lv_iload_n hx hb dX1_realTime_15 rfl (lv_at hl 0 rfl) ?_
    refine lv_if_le (tgt := 36) hx hb dX1_realTime_16 (by decide) (fun c16 => ?_) (fun c16 => ?_)
    · have n16 : (mu ow x mk) ≤ 0 := (nI_leI (a := (mu ow x mk)) (b := 0) (by omega) (by omega)).mp c16
      refine lv_iload_n hx hb dX1_realTime_36 rfl (lv_at hl 0 rfl) ?_
      refine lv_if_ne (tgt := 44) hx hb dX1_realTime_37 (by decide) (fun c37 => ?_) (fun c37 => ?_)
      · have n37 : ¬ (mu ow x mk) = 0 := fun h => c37 ((nI_eq (a := (mu ow x mk)) (b := 0) (by omega) (by omega)).mpr h)
        refine lv_aload_n hx hb dX1_realTime_44 rfl (lv_at hl 1 rfl) ?_
        refine va_get (D := D) (ci := 1) (v := .int (nI mk)) (C := RX1) (T := TX1) (N := 4) hx hb hG inG_X1 hown hK hP k (wl_at (by omega) hE0) rfl 2 (by decide) (hG _ g_62) (fun _ h9 => h9) rfl dX1_realTime_45 ?_
        refine lv_iconst (v := 1) hx hb dX1_realTime_48 (by decide) ?_
        refine lv_isub hx hb dX1_realTime_49 ?_
        refine lv_topi (fun y9 e9 => ?_)
        have e9 : y9 = nI (mk - 1) := e9.trans (by obtain ⟨z, hz⟩ : ∃ z, mk = z + 1 := ⟨mk - 1, by omega⟩; rw [hz]; exact nI_pred z)
        subst e9
        refine lv_istore_n (lv' := [(3, .int (nI (mk - 1))), (2, .int (nI (mu ow x mk))), (0, .ref (adr k)), (1, .int x)]) hx hb dX1_realTime_50 rfl hl (by decide) rfl (fun ls hl => ?_)
        refine lv_iload_n hx hb dX1_realTime_51 rfl (lv_at hl 3 rfl) ?_
        refine lv_aload_n hx hb dX1_realTime_52 rfl (lv_at hl 2 rfl) ?_
        refine va_get (D := D) (ci := 1) (v := .ref (adr (k + 2))) (C := RX1) (T := TX1) (N := 4) hx hb hG inG_X1 hown hK hP k (wl_at (by omega) hE0) rfl 1 (by decide) (hG _ g_61) (fun _ h9 => h9) rfl dX1_realTime_53 ?_
        refine lv_iload_n hx hb dX1_realTime_56 rfl (lv_at hl 0 rfl) ?_
        refine wn_iald (j := (mk - 1)) hx hb hK hP (by omega) hE2 (by omega) (by decide) dX1_realTime_57 ?_
        refine lv_aload_n hx hb dX1_realTime_58 rfl (lv_at hl 2 rfl) ?_
        refine va_get (D := D) (ci := 1) (v := .ref (adr (k + 1))) (C := RX1) (T := TX1) (N := 4) hx hb hG inG_X1 hown hK hP k (wl_at (by omega) hE0) rfl 0 (by decide) (hG _ g_60) (fun _ h9 => h9) rfl dX1_realTime_59 ?_
        refine lv_iload_n hx hb dX1_realTime_62 rfl (lv_at hl 0 rfl) ?_
        refine wn_iald (j := (mk - 1)) hx hb hK hP (by omega) hE1 (by omega) (by decide) dX1_realTime_63 ?_
        refine lv_isub hx hb dX1_realTime_64 ?_
        refine lv_iadd hx hb dX1_realTime_65 ?_
        have h9 : (x + ((re (mk - 1)) - (ow (mk - 1))) : Int32) = rt mk ow re x := by unfold rt; first | (rw [if_pos (by omega)]; done) | (rw [if_neg (by omega), if_pos (by omega)]; done) | (rw [if_neg (by omega), if_neg (by omega), if_pos (by omega)]; done) | (rw [if_neg (by omega), if_neg (by omega), if_neg (by omega)]; done)
        exact W.iret (v := x + ((re (mk - 1)) - (ow (mk - 1)))) hx hb hr (fun t ht _ => ⟨congrArg (fun z => Outcome.returned (some (Value.int z))) h9, ht⟩) (fun _ h => nomatch h) dX1_realTime_66
      · have n37 : (mu ow x mk) = 0 := (nI_eq (a := (mu ow x mk)) (b := 0) (by omega) (by omega)).mp c37
        refine lv_iconst (v := 0) hx hb dX1_realTime_40 (by decide) ?_
        refine lv_goto (tgt := 50) hx hb dX1_realTime_41 (by decide) ?_
        refine lv_topi (fun y9 e9 => ?_)
        have e9 : y9 = nI 0 := e9.trans (nI_0.symm)
        subst e9
        refine lv_istore_n (lv' := [(3, .int (nI 0)), (2, .int (nI (mu ow x mk))), (0, .ref (adr k)), (1, .int x)]) hx hb dX1_realTime_50 rfl hl (by decide) rfl (fun ls hl => ?_)
        refine lv_iload_n hx hb dX1_realTime_51 rfl (lv_at hl 3 rfl) ?_
        refine lv_aload_n hx hb dX1_realTime_52 rfl (lv_at hl 2 rfl) ?_
        refine va_get (D := D) (ci := 1) (v := .ref (adr (k + 2))) (C := RX1) (T := TX1) (N := 4) hx hb hG inG_X1 hown hK hP k (wl_at (by omega) hE0) rfl 1 (by decide) (hG _ g_61) (fun _ h9 => h9) rfl dX1_realTime_53 ?_
        refine lv_iload_n hx hb dX1_realTime_56 rfl (lv_at hl 0 rfl) ?_
        refine wn_iald (j := 0) hx hb hK hP (by omega) hE2 (by omega) (by decide) dX1_realTime_57 ?_
        refine lv_aload_n hx hb dX1_realTime_58 rfl (lv_at hl 2 rfl) ?_
        refine va_get (D := D) (ci := 1) (v := .ref (adr (k + 1))) (C := RX1) (T := TX1) (N := 4) hx hb hG inG_X1 hown hK hP k (wl_at (by omega) hE0) rfl 0 (by decide) (hG _ g_60) (fun _ h9 => h9) rfl dX1_realTime_59 ?_
        refine lv_iload_n hx hb dX1_realTime_62 rfl (lv_at hl 0 rfl) ?_
        refine wn_iald (j := 0) hx hb hK hP (by omega) hE1 (by omega) (by decide) dX1_realTime_63 ?_
        refine lv_isub hx hb dX1_realTime_64 ?_
        refine lv_iadd hx hb dX1_realTime_65 ?_
        have h9 : (x + ((re 0) - (ow 0)) : Int32) = rt mk ow re x := by unfold rt; first | (rw [if_pos (by omega)]; done) | (rw [if_neg (by omega), if_pos (by omega)]; done) | (rw [if_neg (by omega), if_neg (by omega), if_pos (by omega)]; done) | (rw [if_neg (by omega), if_neg (by omega), if_neg (by omega)]; done)
        exact W.iret (v := x + ((re 0) - (ow 0))) hx hb hr (fun t ht _ => ⟨congrArg (fun z => Outcome.returned (some (Value.int z))) h9, ht⟩) (fun _ h => nomatch h) dX1_realTime_66
    · have n16 : ¬ (mu ow x mk) ≤ 0 := fun h => c16 ((nI_leI (a := (mu ow x mk)) (b := 0) (by omega) (by omega)).mpr h)
      refine lv_iload_n hx hb dX1_realTime_19 rfl (lv_at hl 0 rfl) ?_
      refine lv_aload_n hx hb dX1_realTime_20 rfl (lv_at hl 1 rfl) ?_
      refine va_get (D := D) (ci := 1) (v := .int (nI mk)) (C := RX1) (T := TX1) (N := 4) hx hb hG inG_X1 hown hK hP k (wl_at (by omega) hE0) rfl 2 (by decide) (hG _ g_62) (fun _ h9 => h9) rfl dX1_realTime_21 ?_
      refine lv_icmp_ge (tgt := 36) hx hb dX1_realTime_24 (by decide) (fun c24 => ?_) (fun c24 => ?_)
      · have n24 : mk ≤ (mu ow x mk) := (nI_leI (a := mk) (b := (mu ow x mk)) (by omega) (by omega)).mp c24
        refine lv_iload_n hx hb dX1_realTime_36 rfl (lv_at hl 0 rfl) ?_
        refine lv_if_ne (tgt := 44) hx hb dX1_realTime_37 (by decide) (fun c37 => ?_) (fun c37 => ?_)
        · have n37 : ¬ (mu ow x mk) = 0 := fun h => c37 ((nI_eq (a := (mu ow x mk)) (b := 0) (by omega) (by omega)).mpr h)
          refine lv_aload_n hx hb dX1_realTime_44 rfl (lv_at hl 1 rfl) ?_
          refine va_get (D := D) (ci := 1) (v := .int (nI mk)) (C := RX1) (T := TX1) (N := 4) hx hb hG inG_X1 hown hK hP k (wl_at (by omega) hE0) rfl 2 (by decide) (hG _ g_62) (fun _ h9 => h9) rfl dX1_realTime_45 ?_
          refine lv_iconst (v := 1) hx hb dX1_realTime_48 (by decide) ?_
          refine lv_isub hx hb dX1_realTime_49 ?_
          refine lv_topi (fun y9 e9 => ?_)
          have e9 : y9 = nI (mk - 1) := e9.trans (by obtain ⟨z, hz⟩ : ∃ z, mk = z + 1 := ⟨mk - 1, by omega⟩; rw [hz]; exact nI_pred z)
          subst e9
          refine lv_istore_n (lv' := [(3, .int (nI (mk - 1))), (2, .int (nI (mu ow x mk))), (0, .ref (adr k)), (1, .int x)]) hx hb dX1_realTime_50 rfl hl (by decide) rfl (fun ls hl => ?_)
          refine lv_iload_n hx hb dX1_realTime_51 rfl (lv_at hl 3 rfl) ?_
          refine lv_aload_n hx hb dX1_realTime_52 rfl (lv_at hl 2 rfl) ?_
          refine va_get (D := D) (ci := 1) (v := .ref (adr (k + 2))) (C := RX1) (T := TX1) (N := 4) hx hb hG inG_X1 hown hK hP k (wl_at (by omega) hE0) rfl 1 (by decide) (hG _ g_61) (fun _ h9 => h9) rfl dX1_realTime_53 ?_
          refine lv_iload_n hx hb dX1_realTime_56 rfl (lv_at hl 0 rfl) ?_
          refine wn_iald (j := (mk - 1)) hx hb hK hP (by omega) hE2 (by omega) (by decide) dX1_realTime_57 ?_
          refine lv_aload_n hx hb dX1_realTime_58 rfl (lv_at hl 2 rfl) ?_
          refine va_get (D := D) (ci := 1) (v := .ref (adr (k + 1))) (C := RX1) (T := TX1) (N := 4) hx hb hG inG_X1 hown hK hP k (wl_at (by omega) hE0) rfl 0 (by decide) (hG _ g_60) (fun _ h9 => h9) rfl dX1_realTime_59 ?_
          refine lv_iload_n hx hb dX1_realTime_62 rfl (lv_at hl 0 rfl) ?_
          refine wn_iald (j := (mk - 1)) hx hb hK hP (by omega) hE1 (by omega) (by decide) dX1_realTime_63 ?_
          refine lv_isub hx hb dX1_realTime_64 ?_
          refine lv_iadd hx hb dX1_realTime_65 ?_
          have h9 : (x + ((re (mk - 1)) - (ow (mk - 1))) : Int32) = rt mk ow re x := by unfold rt; first | (rw [if_pos (by omega)]; done) | (rw [if_neg (by omega), if_pos (by omega)]; done) | (rw [if_neg (by omega), if_neg (by omega), if_pos (by omega)]; done) | (rw [if_neg (by omega), if_neg (by omega), if_neg (by omega)]; done)
          exact W.iret (v := x + ((re (mk - 1)) - (ow (mk - 1)))) hx hb hr (fun t ht _ => ⟨congrArg (fun z => Outcome.returned (some (Value.int z))) h9, ht⟩) (fun _ h => nomatch h) dX1_realTime_66
        · have n37 : (mu ow x mk) = 0 := (nI_eq (a := (mu ow x mk)) (b := 0) (by omega) (by omega)).mp c37
          refine lv_iconst (v := 0) hx hb dX1_realTime_40 (by decide) ?_
          refine lv_goto (tgt := 50) hx hb dX1_realTime_41 (by decide) ?_
          refine lv_topi (fun y9 e9 => ?_)
          have e9 : y9 = nI 0 := e9.trans (nI_0.symm)
          subst e9
          refine lv_istore_n (lv' := [(3, .int (nI 0)), (2, .int (nI (mu ow x mk))), (0, .ref (adr k)), (1, .int x)]) hx hb dX1_realTime_50 rfl hl (by decide) rfl (fun ls hl => ?_)
          refine lv_iload_n hx hb dX1_realTime_51 rfl (lv_at hl 3 rfl) ?_
          refine lv_aload_n hx hb dX1_realTime_52 rfl (lv_at hl 2 rfl) ?_
          refine va_get (D := D) (ci := 1) (v := .ref (adr (k + 2))) (C := RX1) (T := TX1) (N := 4) hx hb hG inG_X1 hown hK hP k (wl_at (by omega) hE0) rfl 1 (by decide) (hG _ g_61) (fun _ h9 => h9) rfl dX1_realTime_53 ?_
          refine lv_iload_n hx hb dX1_realTime_56 rfl (lv_at hl 0 rfl) ?_
          refine wn_iald (j := 0) hx hb hK hP (by omega) hE2 (by omega) (by decide) dX1_realTime_57 ?_
          refine lv_aload_n hx hb dX1_realTime_58 rfl (lv_at hl 2 rfl) ?_
          refine va_get (D := D) (ci := 1) (v := .ref (adr (k + 1))) (C := RX1) (T := TX1) (N := 4) hx hb hG inG_X1 hown hK hP k (wl_at (by omega) hE0) rfl 0 (by decide) (hG _ g_60) (fun _ h9 => h9) rfl dX1_realTime_59 ?_
          refine lv_iload_n hx hb dX1_realTime_62 rfl (lv_at hl 0 rfl) ?_
          refine wn_iald (j := 0) hx hb hK hP (by omega) hE1 (by omega) (by decide) dX1_realTime_63 ?_
          refine lv_isub hx hb dX1_realTime_64 ?_
          refine lv_iadd hx hb dX1_realTime_65 ?_
          have h9 : (x + ((re 0) - (ow 0)) : Int32) = rt mk ow re x := by unfold rt; first | (rw [if_pos (by omega)]; done) | (rw [if_neg (by omega), if_pos (by omega)]; done) | (rw [if_neg (by omega), if_neg (by omega), if_pos (by omega)]; done) | (rw [if_neg (by omega), if_neg (by omega), if_neg (by omega)]; done)
          exact W.iret (v := x + ((re 0) - (ow 0))) hx hb hr (fun t ht _ => ⟨congrArg (fun z => Outcome.returned (some (Value.int z))) h9, ht⟩) (fun _ h => nomatch h) dX1_realTime_66
      · have n24 : ¬ mk ≤ (mu ow x mk) := fun h => c24 ((nI_leI (a := mk) (b := (mu ow x mk)) (by omega) (by omega)).mpr h)
        refine lv_aload_n hx hb dX1_realTime_27 rfl (lv_at hl 1 rfl) ?_
        refine lv_iload_n hx hb dX1_realTime_28 rfl (lv_at hl 0 rfl) ?_
        refine lv_iconst (v := 1) hx hb dX1_realTime_29 (by decide) ?_
        refine lv_isub hx hb dX1_realTime_30 ?_
        refine lv_topi (fun y9 e9 => ?_)
        have e9 : y9 = nI (mu ow x mk - 1) := e9.trans (by obtain ⟨z, hz⟩ : ∃ z, mu ow x mk = z + 1 := ⟨mu ow x mk - 1, by omega⟩; rw [hz]; exact nI_pred z)
        subst e9
        refine lv_iload_n hx hb dX1_realTime_31 rfl (lv_at hl 2 rfl) ?_
        refine wn_rV (rest := []) hx hb hml hown hG hN hP (cX1_realBetween_r hk hm hE0 hE1 hE2 (j := mu ow x mk - 1) (by omega) x) (cwV 2 hG (gV g_254 g_255 g_256 g_3 g_257) rfl rfl rfl (by decide +kernel) ⟨Nat.le_of_ble_eq_true rfl, Nat.le_of_ble_eq_true rfl⟩) (by omega) hE0 rfl rfl hl.1 rfl (Nat.le_of_ble_eq_true rfl) dX1_realTime_32 ⟨Nat.zero_le _, Nat.zero_le _⟩ ?_
        have h9 : (rb ow re (mu ow x mk - 1) x : Int32) = rt mk ow re x := by unfold rt; first | (rw [if_pos (by omega)]; done) | (rw [if_neg (by omega), if_pos (by omega)]; done) | (rw [if_neg (by omega), if_neg (by omega), if_pos (by omega)]; done) | (rw [if_neg (by omega), if_neg (by omega), if_neg (by omega)]; done)
        exact W.iret (v := rb ow re (mu ow x mk - 1) x) hx hb hr (fun t ht _ => ⟨congrArg (fun z => Outcome.returned (some (Value.int z))) h9, ht⟩) (fun _ h => nomatch h) dX1_realTime_35
  · have n4 : mk = 0 := (nI_eq (a := mk) (b := 0) (by omega) (by omega)).mp c4
    refine lv_iload_n hx hb dX1_realTime_7 rfl (lv_at hl 1 rfl) ?_
    have h9 : (x : Int32) = rt mk ow re x := by unfold rt; first | (rw [if_pos (by omega)]; done) | (rw [if_neg (by omega), if_pos (by omega)]; done) | (rw [if_neg (by omega), if_neg (by omega), if_pos (by omega)]; done) | (rw [if_neg (by omega), if_neg (by omega), if_neg (by omega)]; done)
    exact W.iret (v := x) hx hb hr (fun t ht _ => ⟨congrArg (fun z => Outcome.returned (some (Value.int z))) h9, ht⟩) (fun _ h => nomatch h) dX1_realTime_8
end
section
/-! METHODS THAT WRITE: what they leave, and how they are called -/
def wq (D : va_G) (lo : Nat) (adr : Nat → Nat) (n : Nat) (v : Option Value) (F : (Nat → va_E) → Prop) : Array Value → State → Outcome → State → Prop := fun _ st o t =>
  o = .returned v ∧ ∃ E2 : Nat → va_E, F E2 ∧ va_P D kcl (wl adr n E2) t.heap ∧ va_F (fun q => lo ≤ q) st t
section WDW
variable {p : Program} {l : Launch} {e : Env} {R : Room} {s : State} {m : MethodId} {args : Array Value} {below : List Frame} {meth : Method} {c : Code} {H : Heap} {locs : List Loc} {cells slots : Nat} {Q : State → Prop}
variable {cc : ByteArray} {pc : Nat} {ls : Array Slot} {rest : List Value} {D : va_G} {cA : Nat → ClassId} {H0 : Heap} {adr : Nat → Nat} {lo n : Nat} {E : Nat → va_E}
theorem wn_wV {C own : String} {y : MethodName} {bytes : ByteArray} {maxL nL na index k ci N : Nat} {T : u_T} {ret : Option FieldType} {wy : Cond} {rm : Room} {As : List Value} {v : Option Value} {F : (Nat → va_E) → Prop} {st0 : List Value} {fs : List Value}
    (hx : p.tables.exec = Jvm.exec) (hb : c.code = cc) (hml : c.maxLocals = nL) (hown : s.vm.findClass own = some m.cls) (hG : ∀ w ∈ lw_G, w.before args s = true) (hN : KN D (kty cA) s) (hP : va_P D kcl (wl adr n E) H) (hS : va_S (fun q => lo ≤ q) H0 H locs)
    (hM : Met l y (wy :: lw_G) rm (va_Pc (.ref (adr k) :: As) (wdU D (kty cA) adr n E)) (wq D lo adr n v F) 0 0 (fun q => lo ≤ q)) (cw : CallW R s args own C index y bytes maxL ret (wy :: lw_G) rm 0 0 na)
    (hk : k < n) (hE : E k = .inr (ci, fs)) (hc : kcl[ci]? = some (C, T, N)) (hn : As.length = na) (hsize : ls.size = nL) (hstack : st0 = As.reverse ++ .ref (adr k) :: rest) (hW : (rest.map fun v => v.category).sum ≤ 8) (hdg : decode cc pc = .ok (.invokevirtual index, 3)) (hf : cells ≤ R.cells ∧ slots ≤ R.slots)
    (kk : ∀ (E2 : Nat → va_E) (H1 : Heap) (locs1 : List Loc), F E2 → va_P D kcl (wl adr n E2) H1 → va_S (fun q => lo ≤ q) H0 H1 locs1 → W p l e R s m args below meth c H1 locs1 cells slots Q (F0 m (pc + 3) ls (v.toList ++ rest))) : W p l e R s m args below meth c H locs cells slots Q (F0 m pc ls st0) := by
  subst hstack
  intro T0 hT X
  obtain ⟨v', st₀, t, T', L, h0, X', hL, e1, e2, ⟨hv, E2, hF, hP2, hz, hk2⟩, st⟩ := va_runV (p := p) (l := l) (e := e) (R := R) (s := s) (m := m) (args := args) (below := below) (meth := meth) (c := c) (H := H) (locs := locs) (cells := cells) (slots := slots) (g := F0 m pc ls (As.reverse ++ .ref (adr k) :: rest)) (As := As) (rest := rest) (b := adr k) ⟨hx, hb, hml, hown, hG⟩ hM cw ⟨wdU_blind, wd_recv hN hP hk hE hc, wdU_pre hN hP⟩ rfl hn hsize rfl (lv_room hW) hdg hf T0 hT X
  cases hv
  rw [h0] at hz hk2
  obtain ⟨t2, a1, b1⟩ := kk E2 T'.heap (locs ++ L) hF (by rw [e1]; exact hP2)
    ⟨Nat.le_trans hS.1 (by rw [e1]; exact hz), fun q h1 h2 => by rw [e1, hk2 q (Nat.lt_of_lt_of_le h1 hS.1) h2]; exact hS.2.1 q h1 h2, fun q hq => by
      rcases List.mem_append.mp hq with h | h
      · exact hS.2.2 q h
      · exact hL q h⟩ T' rfl X'
  exact ⟨t2, st t2 a1, b1⟩
end WDW
theorem upd_fun {α : Type} (g : Int32 → α) (f : Nat → Int32) (k : Nat) (x : Int32) (j : Nat) : g (upd f k x j) = if j = k then g x else g (f j) := by
  unfold upd; split <;> rfl
def upN (f : Nat → Nat) (k x : Nat) : Nat → Nat := fun j => if j = k then x else f j
def upZ (f : Nat → Bool) (k : Nat) (x : Bool) : Nat → Bool := fun j => if j = k then x else f j
theorem upd_nI (f : Nat → Nat) (k x : Nat) : upd (fun j => nI (f j)) k (nI x) = fun j => nI (upN f k x j) := by
  funext j; unfold upd upN; split <;> rfl
theorem upd_bI (f : Nat → Bool) (k : Nat) (x : Bool) : upd (fun j => bI (f j)) k (bI x) = fun j => bI (upZ f k x j) := by
  funext j; unfold upd upZ; split <;> rfl
end
section
set_option maxHeartbeats 4000000 in
set_option maxRecDepth 100000 in
theorem cX1_addMark_w {l : Launch} {D : va_G} {cA : Nat → ClassId} {adr : Nat → Nat} {n : Nat} {E : Nat → va_E} {lo : Nat} (hAd : wd_ad lo n adr) {k mk lf : Nat} {ow re : Nat → Int32} (hk : k + 2 < n) (hm : mk ≤ 6) (hE0 : E k = .inr (1, [.ref (adr (k + 1)), .ref (adr (k + 2)), .int (nI mk), .int (nI lf)])) (hE1 : E (k + 1) = .inl (cA 0, 6, .inl ow)) (hE2 : E (k + 2) = .inl (cA 0, 6, .inl re)) (hm6 : mk < 6) (a b : Int32) : Met l yX1_addMark (.code yX1_addMark cX1_addMark 3 none :: lw_G) ({ frames := 0, cells := 0, slots := 0, locals := 0 } : Room) (va_Pc [.ref (adr k), .int a, .int b] (wdU D (kty cA) adr n E)) (wq D lo adr n (none) (fun E2 => E2 k = .inr (1, [.ref (adr (k + 1)), .ref (adr (k + 2)), .int (nI (mk + 1)), .int (nI lf)]) ∧ E2 (k + 1) = .inl (cA 0, 6, .inl (upd ow mk a)) ∧ E2 (k + 2) = .inl (cA 0, 6, .inl (upd re mk b)) ∧ ∀ j, j ≠ k → j ≠ k + 1 → j ≠ k + 2 → E2 j = E j)) 0 0 (fun q => lo ≤ q) := by
  refine Met.ofW (cc := cX1_addMark) (maxL := 3) (ret := none) (by decide) rfl ?_
  intro p e s m args below meth c s₁ B hml hv
  obtain ⟨rfl, hP, hN⟩ := hv
  have hx := B.exec
  have hb := B.bytes
  have hr := B.returns
  have hG : ∀ w ∈ lw_G, w.before _ s = true := fun w h => atoms_spec (ws := _ :: lw_G) B.pre w (List.mem_cons_of_mem _ h)
  have hown : s.vm.findClass RX1 = some m.cls := findClass_of_methodNamed B.named
  have hlocks := B.notSynchronized
  have hK := hN.1
  have hS : va_S (fun q => lo ≤ q) s.heap s.heap [] := va_S.rf
  have hF : ∀ j, j ≠ k → j ≠ k + 1 → j ≠ k + 2 → E j = E j := fun j _ _ _ => rfl
  have hl := lv_entry ([.ref (adr k), .int a, .int b]) (n := 3) (Nat.le_of_ble_eq_true rfl)
  rw [lg_entry_eq]
  generalize (lg_sl ([.ref (adr k), .int a, .int b]) ++ List.replicate (3 - (lg_sl ([.ref (adr k), .int a, .int b])).length) Slot.unset).toArray = ls at hl ⊢
  have hl : lv_has ls 3 [(0, .ref (adr k)), (1, .int a), (2, .int b)] := hl
  refine lv_aload_n hx hb dX1_addMark_0 rfl (lv_at hl 0 rfl) ?_
  refine va_get (D := D) (ci := 1) (v := .ref (adr (k + 1))) (C := RX1) (T := TX1) (N := 4) hx hb hG inG_X1 hown hK hP k (wl_at (by omega) hE0) rfl 0 (by decide) (hG _ g_60) (fun _ h9 => h9) rfl dX1_addMark_1 ?_
  refine lv_aload_n hx hb dX1_addMark_4 rfl (lv_at hl 0 rfl) ?_
  refine va_get (D := D) (ci := 1) (v := .int (nI mk)) (C := RX1) (T := TX1) (N := 4) hx hb hG inG_X1 hown hK hP k (wl_at (by omega) hE0) rfl 2 (by decide) (hG _ g_62) (fun _ h9 => h9) rfl dX1_addMark_5 ?_
  refine lv_iload_n hx hb dX1_addMark_8 rfl (lv_at hl 1 rfl) ?_
  refine wn_iast (j := mk) hx hb hK hAd hP hS (by omega) hE1 (by omega) (by decide) dX1_addMark_9 (fun H locs hP hS => ?_)
  obtain ⟨E1x, hE1x⟩ : ∃ z, z = va_up E (k + 1) (.inl (cA 0, 6, .inl (upd ow mk a))) := ⟨_, rfl⟩
  have hP : va_P D kcl (wl adr n E1x) H := by rw [hE1x]; exact hP
  have hE0 := (show E1x k = E k from by rw [hE1x, va_up_ne _ _ (by omega)]).trans hE0
  have hE1 : E1x (k + 1) = .inl (cA 0, 6, .inl (upd ow mk a)) := by rw [hE1x, va_up_self]
  have hE2 := (show E1x (k + 2) = E (k + 2) from by rw [hE1x, va_up_ne _ _ (by omega)]).trans hE2
  have hF : ∀ j, j ≠ k → j ≠ k + 1 → j ≠ k + 2 → E1x j = E j := fun j z0 z1 z2 => (show E1x j = E j from by rw [hE1x, va_up_ne _ _ z1]).trans (hF j z0 z1 z2)
  refine lv_aload_n hx hb dX1_addMark_10 rfl (lv_at hl 0 rfl) ?_
  refine va_get (D := D) (ci := 1) (v := .ref (adr (k + 2))) (C := RX1) (T := TX1) (N := 4) hx hb hG inG_X1 hown hK hP k (wl_at (by omega) hE0) rfl 1 (by decide) (hG _ g_61) (fun _ h9 => h9) rfl dX1_addMark_11 ?_
  refine lv_aload_n hx hb dX1_addMark_14 rfl (lv_at hl 0 rfl) ?_
  refine va_get (D := D) (ci := 1) (v := .int (nI mk)) (C := RX1) (T := TX1) (N := 4) hx hb hG inG_X1 hown hK hP k (wl_at (by omega) hE0) rfl 2 (by decide) (hG _ g_62) (fun _ h9 => h9) rfl dX1_addMark_15 ?_
  refine lv_iload_n hx hb dX1_addMark_18 rfl (lv_at hl 2 rfl) ?_
  refine wn_iast (j := mk) hx hb hK hAd hP hS (by omega) hE2 (by omega) (by decide) dX1_addMark_19 (fun H locs hP hS => ?_)
  obtain ⟨E2x, hE2x⟩ : ∃ z, z = va_up E1x (k + 2) (.inl (cA 0, 6, .inl (upd re mk b))) := ⟨_, rfl⟩
  have hP : va_P D kcl (wl adr n E2x) H := by rw [hE2x]; exact hP
  have hE0 := (show E2x k = E1x k from by rw [hE2x, va_up_ne _ _ (by omega)]).trans hE0
  have hE1 := (show E2x (k + 1) = E1x (k + 1) from by rw [hE2x, va_up_ne _ _ (by omega)]).trans hE1
  have hE2 : E2x (k + 2) = .inl (cA 0, 6, .inl (upd re mk b)) := by rw [hE2x, va_up_self]
  have hF : ∀ j, j ≠ k → j ≠ k + 1 → j ≠ k + 2 → E2x j = E j := fun j z0 z1 z2 => (show E2x j = E1x j from by rw [hE2x, va_up_ne _ _ z2]).trans (hF j z0 z1 z2)
  refine lv_aload_n hx hb dX1_addMark_20 rfl (lv_at hl 0 rfl) ?_
  refine lv_dup hx hb dX1_addMark_21 rfl ?_
  refine va_get (D := D) (ci := 1) (v := .int (nI mk)) (C := RX1) (T := TX1) (N := 4) hx hb hG inG_X1 hown hK hP k (wl_at (by omega) hE0) rfl 2 (by decide) (hG _ g_62) (fun _ h9 => h9) rfl dX1_addMark_22 ?_
  refine lv_iconst (v := 1) hx hb dX1_addMark_25 (by decide) ?_
  refine lv_iadd hx hb dX1_addMark_26 ?_
  refine lv_topi (fun y9 e9 => ?_)
  have e9 : y9 = nI (mk + 1) := e9.trans (nI_1 mk)
  subst e9
  refine wd_put (ci := 1) (C := RX1) (T := TX1) (N := 4) (v := .int (nI (mk + 1))) (ty := .int) hx hb hG inG_X1 tyX1 tyX1_ok nmX1 hown hK hAd hP hS (k0 := k) (by omega) hE0 rfl 2 (by decide) (hG _ g_62) (fun _ h9 => h9) rfl (by decide +kernel) rfl rfl (Nat.le_of_ble_eq_true rfl) dX1_addMark_27 (fun H locs hP hS => ?_)
  obtain ⟨E3x, hE3x⟩ : ∃ z, z = va_up E2x k (.inr (1, [.ref (adr (k + 1)), .ref (adr (k + 2)), .int (nI (mk + 1)), .int (nI lf)])) := ⟨_, rfl⟩
  have hP : va_P D kcl (wl adr n E3x) H := by rw [hE3x]; exact hP
  have hE0 : E3x k = .inr (1, [.ref (adr (k + 1)), .ref (adr (k + 2)), .int (nI (mk + 1)), .int (nI lf)]) := by rw [hE3x, va_up_self]
  have hE1 := (show E3x (k + 1) = E2x (k + 1) from by rw [hE3x, va_up_ne _ _ (by omega)]).trans hE1
  have hE2 := (show E3x (k + 2) = E2x (k + 2) from by rw [hE3x, va_up_ne _ _ (by omega)]).trans hE2
  have hF : ∀ j, j ≠ k → j ≠ k + 1 → j ≠ k + 2 → E3x j = E j := fun j z0 z1 z2 => (show E3x j = E2x j from by rw [hE3x, va_up_ne _ _ z0]).trans (hF j z0 z1 z2)
  exact W.vret hx hb hr (fun t ht _ => ⟨rfl, E3x, ⟨hE0, hE1, hE2, hF⟩, by rw [ht]; exact hP, hS.F ht⟩) hS.2.2 dX1_addMark_30

set_option maxHeartbeats 4000000 in
set_option maxRecDepth 100000 in
theorem cX2_add_w {l : Launch} {D : va_G} {cA : Nat → ClassId} {adr : Nat → Nat} {n : Nat} {E : Nat → va_E} {lo : Nat} (hAd : wd_ad lo n adr) {k ct : Nat} {nm td : Nat → Nat} {vl : Nat → Int32} {sd : Nat → Bool} (hk : k + 4 < n) (hct : ct ≤ 120) (hE0 : E k = .inr (2, [.ref (adr (k + 1)), .ref (adr (k + 2)), .ref (adr (k + 3)), .ref (adr (k + 4)), .int (nI ct)])) (hE1 : E (k + 1) = .inl (cA 0, 120, .inl (fun j => nI (nm j)))) (hE2 : E (k + 2) = .inl (cA 0, 120, .inl (fun j => nI (td j)))) (hE3 : E (k + 3) = .inl (cA 0, 120, .inl vl)) (hE4 : E (k + 4) = .inl (cA 1, 120, .inl (fun j => bI (sd j)))) (hnm : ∀ j, nm j < 2560) (htd : ∀ j, td j < 2 ^ 30) (hc2 : ct < 120) {a b : Nat} (v : Int32) : Met l yX2_add (.code yX2_add cX2_add 5 (some .int) :: lw_G) ({ frames := 0, cells := 0, slots := 0, locals := 0 } : Room) (va_Pc [.ref (adr k), .int (nI a), .int (nI b), .int v] (wdU D (kty cA) adr n E)) (wq D lo adr n (some (.int (nI ct))) (fun E2 => E2 k = .inr (2, [.ref (adr (k + 1)), .ref (adr (k + 2)), .ref (adr (k + 3)), .ref (adr (k + 4)), .int (nI (ct + 1))]) ∧ E2 (k + 1) = .inl (cA 0, 120, .inl (fun j => nI (upN nm ct a j))) ∧ E2 (k + 2) = .inl (cA 0, 120, .inl (fun j => nI (upN td ct b j))) ∧ E2 (k + 3) = .inl (cA 0, 120, .inl (upd vl ct v)) ∧ ∀ j, j ≠ k → j ≠ k + 1 → j ≠ k + 2 → j ≠ k + 3 → E2 j = E j)) 0 0 (fun q => lo ≤ q) := by
  refine Met.ofW (cc := cX2_add) (maxL := 5) (ret := (some .int)) (by decide) rfl ?_
  intro p e s m args below meth c s₁ B hml hv
  obtain ⟨rfl, hP, hN⟩ := hv
  have hx := B.exec
  have hb := B.bytes
  have hr := B.returns
  have hG : ∀ w ∈ lw_G, w.before _ s = true := fun w h => atoms_spec (ws := _ :: lw_G) B.pre w (List.mem_cons_of_mem _ h)
  have hown : s.vm.findClass RX2 = some m.cls := findClass_of_methodNamed B.named
  have hlocks := B.notSynchronized
  have hK := hN.1
  have hS : va_S (fun q => lo ≤ q) s.heap s.heap [] := va_S.rf
  have hF : ∀ j, j ≠ k → j ≠ k + 1 → j ≠ k + 2 → j ≠ k + 3 → E j = E j := fun j _ _ _ _ => rfl
  have hl := lv_entry ([.ref (adr k), .int (nI a), .int (nI b), .int v]) (n := 5) (Nat.le_of_ble_eq_true rfl)
  rw [lg_entry_eq]
  generalize (lg_sl ([.ref (adr k), .int (nI a), .int (nI b), .int v]) ++ List.replicate (5 - (lg_sl ([.ref (adr k), .int (nI a), .int (nI b), .int v])).length) Slot.unset).toArray = ls at hl ⊢
  have hl : lv_has ls 5 [(0, .ref (adr k)), (1, .int (nI a)), (2, .int (nI b)), (3, .int v)] := hl
  refine lv_aload_n hx hb dX2_add_0 rfl (lv_at hl 0 rfl) ?_
  refine va_get (D := D) (ci := 2) (v := .int (nI ct)) (C := RX2) (T := TX2) (N := 5) hx hb hG inG_X2 hown hK hP k (wl_at (by omega) hE0) rfl 4 (by decide) (hG _ g_40) (fun _ h9 => h9) rfl dX2_add_1 ?_
  refine lv_istore (lv' := [(4, .int (nI ct)), (0, .ref (adr k)), (1, .int (nI a)), (2, .int (nI b)), (3, .int v)]) hx hb dX2_add_4 hl (by decide) rfl (fun ls hl => ?_)
  refine lv_aload_n hx hb dX2_add_6 rfl (lv_at hl 1 rfl) ?_
  refine va_get (D := D) (ci := 2) (v := .ref (adr (k + 1))) (C := RX2) (T := TX2) (N := 5) hx hb hG inG_X2 hown hK hP k (wl_at (by omega) hE0) rfl 0 (by decide) (hG _ g_32) (fun _ h9 => h9) rfl dX2_add_7 ?_
  refine lv_iload hx hb dX2_add_10 (lv_at hl 0 rfl) ?_
  refine lv_iload_n hx hb dX2_add_12 rfl (lv_at hl 2 rfl) ?_
  refine wn_iast (j := ct) hx hb hK hAd hP hS (by omega) hE1 (by omega) (by decide) dX2_add_13 (fun H locs hP hS => ?_)
  rw [upd_nI] at hP
  obtain ⟨E1x, hE1x⟩ : ∃ z, z = va_up E (k + 1) (.inl (cA 0, 120, .inl (fun j => nI (upN nm ct a j)))) := ⟨_, rfl⟩
  have hP : va_P D kcl (wl adr n E1x) H := by rw [hE1x]; exact hP
  have hE0 := (show E1x k = E k from by rw [hE1x, va_up_ne _ _ (by omega)]).trans hE0
  have hE1 : E1x (k + 1) = .inl (cA 0, 120, .inl (fun j => nI (upN nm ct a j))) := by rw [hE1x, va_up_self]
  have hE2 := (show E1x (k + 2) = E (k + 2) from by rw [hE1x, va_up_ne _ _ (by omega)]).trans hE2
  have hE3 := (show E1x (k + 3) = E (k + 3) from by rw [hE1x, va_up_ne _ _ (by omega)]).trans hE3
  have hE4 := (show E1x (k + 4) = E (k + 4) from by rw [hE1x, va_up_ne _ _ (by omega)]).trans hE4
  have hF : ∀ j, j ≠ k → j ≠ k + 1 → j ≠ k + 2 → j ≠ k + 3 → E1x j = E j := fun j z0 z1 z2 z3 => (show E1x j = E j from by rw [hE1x, va_up_ne _ _ z1]).trans (hF j z0 z1 z2 z3)
  refine lv_aload_n hx hb dX2_add_14 rfl (lv_at hl 1 rfl) ?_
  refine va_get (D := D) (ci := 2) (v := .ref (adr (k + 2))) (C := RX2) (T := TX2) (N := 5) hx hb hG inG_X2 hown hK hP k (wl_at (by omega) hE0) rfl 1 (by decide) (hG _ g_34) (fun _ h9 => h9) rfl dX2_add_15 ?_
  refine lv_iload hx hb dX2_add_18 (lv_at hl 0 rfl) ?_
  refine lv_iload_n hx hb dX2_add_20 rfl (lv_at hl 3 rfl) ?_
  refine wn_iast (j := ct) hx hb hK hAd hP hS (by omega) hE2 (by omega) (by decide) dX2_add_21 (fun H locs hP hS => ?_)
  rw [upd_nI] at hP
  obtain ⟨E2x, hE2x⟩ : ∃ z, z = va_up E1x (k + 2) (.inl (cA 0, 120, .inl (fun j => nI (upN td ct b j)))) := ⟨_, rfl⟩
  have hP : va_P D kcl (wl adr n E2x) H := by rw [hE2x]; exact hP
  have hE0 := (show E2x k = E1x k from by rw [hE2x, va_up_ne _ _ (by omega)]).trans hE0
  have hE1 := (show E2x (k + 1) = E1x (k + 1) from by rw [hE2x, va_up_ne _ _ (by omega)]).trans hE1
  have hE2 : E2x (k + 2) = .inl (cA 0, 120, .inl (fun j => nI (upN td ct b j))) := by rw [hE2x, va_up_self]
  have hE3 := (show E2x (k + 3) = E1x (k + 3) from by rw [hE2x, va_up_ne _ _ (by omega)]).trans hE3
  have hE4 := (show E2x (k + 4) = E1x (k + 4) from by rw [hE2x, va_up_ne _ _ (by omega)]).trans hE4
  have hF : ∀ j, j ≠ k → j ≠ k + 1 → j ≠ k + 2 → j ≠ k + 3 → E2x j = E j := fun j z0 z1 z2 z3 => (show E2x j = E1x j from by rw [hE2x, va_up_ne _ _ z2]).trans (hF j z0 z1 z2 z3)
  refine lv_aload_n hx hb dX2_add_22 rfl (lv_at hl 1 rfl) ?_
  refine va_get (D := D) (ci := 2) (v := .ref (adr (k + 3))) (C := RX2) (T := TX2) (N := 5) hx hb hG inG_X2 hown hK hP k (wl_at (by omega) hE0) rfl 2 (by decide) (hG _ g_36) (fun _ h9 => h9) rfl dX2_add_23 ?_
  refine lv_iload hx hb dX2_add_26 (lv_at hl 0 rfl) ?_
  refine lv_iload_n hx hb dX2_add_28 rfl (lv_at hl 4 rfl) ?_
  refine wn_iast (j := ct) hx hb hK hAd hP hS (by omega) hE3 (by omega) (by decide) dX2_add_29 (fun H locs hP hS => ?_)
  obtain ⟨E3x, hE3x⟩ : ∃ z, z = va_up E2x (k + 3) (.inl (cA 0, 120, .inl (upd vl ct v))) := ⟨_, rfl⟩
  have hP : va_P D kcl (wl adr n E3x) H := by rw [hE3x]; exact hP
  have hE0 := (show E3x k = E2x k from by rw [hE3x, va_up_ne _ _ (by omega)]).trans hE0
  have hE1 := (show E3x (k + 1) = E2x (k + 1) from by rw [hE3x, va_up_ne _ _ (by omega)]).trans hE1
  have hE2 := (show E3x (k + 2) = E2x (k + 2) from by rw [hE3x, va_up_ne _ _ (by omega)]).trans hE2
  have hE3 : E3x (k + 3) = .inl (cA 0, 120, .inl (upd vl ct v)) := by rw [hE3x, va_up_self]
  have hE4 := (show E3x (k + 4) = E2x (k + 4) from by rw [hE3x, va_up_ne _ _ (by omega)]).trans hE4
  have hF : ∀ j, j ≠ k → j ≠ k + 1 → j ≠ k + 2 → j ≠ k + 3 → E3x j = E j := fun j z0 z1 z2 z3 => (show E3x j = E2x j from by rw [hE3x, va_up_ne _ _ z3]).trans (hF j z0 z1 z2 z3)
  refine lv_aload_n hx hb dX2_add_30 rfl (lv_at hl 1 rfl) ?_
  refine lv_dup hx hb dX2_add_31 rfl ?_
  refine va_get (D := D) (ci := 2) (v := .int (nI ct)) (C := RX2) (T := TX2) (N := 5) hx hb hG inG_X2 hown hK hP k (wl_at (by omega) hE0) rfl 4 (by decide) (hG _ g_40) (fun _ h9 => h9) rfl dX2_add_32 ?_
  refine lv_iconst (v := 1) hx hb dX2_add_35 (by decide) ?_
  refine lv_iadd hx hb dX2_add_36 ?_
  refine lv_topi (fun y9 e9 => ?_)
  have e9 : y9 = nI (ct + 1) := e9.trans (nI_1 ct)
  subst e9
  refine wd_put (ci := 2) (C := RX2) (T := TX2) (N := 5) (v := .int (nI (ct + 1))) (ty := .int) hx hb hG inG_X2 tyX2 tyX2_ok nmX2 hown hK hAd hP hS (k0 := k) (by omega) hE0 rfl 4 (by decide) (hG _ g_40) (fun _ h9 => h9) rfl (by decide +kernel) rfl rfl (Nat.le_of_ble_eq_true rfl) dX2_add_37 (fun H locs hP hS => ?_)
  obtain ⟨E4x, hE4x⟩ : ∃ z, z = va_up E3x k (.inr (2, [.ref (adr (k + 1)), .ref (adr (k + 2)), .ref (adr (k + 3)), .ref (adr (k + 4)), .int (nI (ct + 1))])) := ⟨_, rfl⟩
  have hP : va_P D kcl (wl adr n E4x) H := by rw [hE4x]; exact hP
  have hE0 : E4x k = .inr (2, [.ref (adr (k + 1)), .ref (adr (k + 2)), .ref (adr (k + 3)), .ref (adr (k + 4)), .int (nI (ct + 1))]) := by rw [hE4x, va_up_self]
  have hE1 := (show E4x (k + 1) = E3x (k + 1) from by rw [hE4x, va_up_ne _ _ (by omega)]).trans hE1
  have hE2 := (show E4x (k + 2) = E3x (k + 2) from by rw [hE4x, va_up_ne _ _ (by omega)]).trans hE2
  have hE3 := (show E4x (k + 3) = E3x (k + 3) from by rw [hE4x, va_up_ne _ _ (by omega)]).trans hE3
  have hE4 := (show E4x (k + 4) = E3x (k + 4) from by rw [hE4x, va_up_ne _ _ (by omega)]).trans hE4
  have hF : ∀ j, j ≠ k → j ≠ k + 1 → j ≠ k + 2 → j ≠ k + 3 → E4x j = E j := fun j z0 z1 z2 z3 => (show E4x j = E3x j from by rw [hE4x, va_up_ne _ _ z0]).trans (hF j z0 z1 z2 z3)
  refine lv_iload hx hb dX2_add_40 (lv_at hl 0 rfl) ?_
  exact W.iret (v := nI ct) hx hb hr (fun t ht _ => ⟨rfl, E4x, ⟨hE0, hE1, hE2, hE3, hF⟩, by rw [ht]; exact hP, hS.F ht⟩) hS.2.2 dX2_add_42

set_option maxHeartbeats 4000000 in
set_option maxRecDepth 100000 in
theorem cX0_take_w {l : Launch} {D : va_G} {cA : Nat → ClassId} {adr : Nat → Nat} {n : Nat} {E : Nat → va_E} {lo : Nat} (hAd : wd_ad lo n adr) {k : Nat} {mo : Nat → Int32} {mt sn wt : Int32} {ib : Bool} (hk : k + 1 < n) (hE0 : E k = .inr (0, [.ref (adr (k + 1)), .int mt, .int sn, .int wt, .int (bI ib)])) (hE1 : E (k + 1) = .inl (cA 0, 120, .inl mo)) {j : Nat} (hj : j < 120) : Met l yX0_take (.code yX0_take cX0_take 2 none :: lw_G) ({ frames := 0, cells := 0, slots := 0, locals := 0 } : Room) (va_Pc [.ref (adr k), .int (nI j)] (wdU D (kty cA) adr n E)) (wq D lo adr n (none) (fun E2 => E2 k = .inr (0, [.ref (adr (k + 1)), .int (if ib then mt else mt + 1), .int (if ib then sn else sn + 1), .int (if ib then wt + 1 else wt), .int (bI ib)]) ∧ E2 (k + 1) = .inl (cA 0, 120, .inl (upd mo j (if ib then -1 else mt + 1))) ∧ ∀ j, j ≠ k → j ≠ k + 1 → E2 j = E j)) 0 0 (fun q => lo ≤ q) := by
  refine Met.ofW (cc := cX0_take) (maxL := 2) (ret := none) (by decide) rfl ?_
  intro p e s m args below meth c s₁ B hml hv
  obtain ⟨rfl, hP, hN⟩ := hv
  have hx := B.exec
  have hb := B.bytes
  have hr := B.returns
  have hG : ∀ w ∈ lw_G, w.before _ s = true := fun w h => atoms_spec (ws := _ :: lw_G) B.pre w (List.mem_cons_of_mem _ h)
  have hown : s.vm.findClass RX0 = some m.cls := findClass_of_methodNamed B.named
  have hlocks := B.notSynchronized
  have hK := hN.1
  have hS : va_S (fun q => lo ≤ q) s.heap s.heap [] := va_S.rf
  have hF : ∀ j, j ≠ k → j ≠ k + 1 → E j = E j := fun j _ _ => rfl
  have hl := lv_entry ([.ref (adr k), .int (nI j)]) (n := 2) (Nat.le_of_ble_eq_true rfl)
  rw [lg_entry_eq]
  generalize (lg_sl ([.ref (adr k), .int (nI j)]) ++ List.replicate (2 - (lg_sl ([.ref (adr k), .int (nI j)])).length) Slot.unset).toArray = ls at hl ⊢
  have hl : lv_has ls 2 [(0, .ref (adr k)), (1, .int (nI j))] := hl
  refine lv_aload_n hx hb dX0_take_0 rfl (lv_at hl 0 rfl) ?_
  refine va_get (D := D) (ci := 0) (v := .int (bI ib)) (C := RX0) (T := TX0) (N := 5) hx hb hG inG_X0 hown hK hP k (wl_at (by omega) hE0) rfl 4 (by decide) (hG _ g_86) (fun _ h9 => h9) rfl dX0_take_1 ?_
  refine lv_if_eq (tgt := 27) hx hb dX0_take_4 (by decide) (fun c4 => ?_) (fun c4 => ?_)
  · have n4 : ib = false := bI_0.mp c4
    refine lv_aload_n hx hb dX0_take_27 rfl (lv_at hl 0 rfl) ?_
    refine lv_dup hx hb dX0_take_28 rfl ?_
    refine va_get (D := D) (ci := 0) (v := .int mt) (C := RX0) (T := TX0) (N := 5) hx hb hG inG_X0 hown hK hP k (wl_at (by omega) hE0) rfl 1 (by decide) (hG _ g_80) (fun _ h9 => h9) rfl dX0_take_29 ?_
    refine lv_iconst (v := 1) hx hb dX0_take_32 (by decide) ?_
    refine lv_iadd hx hb dX0_take_33 ?_
    refine wd_put (ci := 0) (C := RX0) (T := TX0) (N := 5) (v := .int (mt + 1)) (ty := .int) hx hb hG inG_X0 tyX0 tyX0_ok nmX0 hown hK hAd hP hS (k0 := k) (by omega) hE0 rfl 1 (by decide) (hG _ g_80) (fun _ h9 => h9) rfl (by decide +kernel) rfl rfl (Nat.le_of_ble_eq_true rfl) dX0_take_34 (fun H locs hP hS => ?_)
    obtain ⟨E1x, hE1x⟩ : ∃ z, z = va_up E k (.inr (0, [.ref (adr (k + 1)), .int (mt + 1), .int sn, .int wt, .int (bI ib)])) := ⟨_, rfl⟩
    have hP : va_P D kcl (wl adr n E1x) H := by rw [hE1x]; exact hP
    have hE0 : E1x k = .inr (0, [.ref (adr (k + 1)), .int (mt + 1), .int sn, .int wt, .int (bI ib)]) := by rw [hE1x, va_up_self]
    have hE1 := (show E1x (k + 1) = E (k + 1) from by rw [hE1x, va_up_ne _ _ (by omega)]).trans hE1
    have hF : ∀ j, j ≠ k → j ≠ k + 1 → E1x j = E j := fun j z0 z1 => (show E1x j = E j from by rw [hE1x, va_up_ne _ _ z0]).trans (hF j z0 z1)
    refine lv_aload_n hx hb dX0_take_37 rfl (lv_at hl 0 rfl) ?_
    refine va_get (D := D) (ci := 0) (v := .ref (adr (k + 1))) (C := RX0) (T := TX0) (N := 5) hx hb hG inG_X0 hown hK hP k (wl_at (by omega) hE0) rfl 0 (by decide) (hG _ g_79) (fun _ h9 => h9) rfl dX0_take_38 ?_
    refine lv_iload_n hx hb dX0_take_41 rfl (lv_at hl 1 rfl) ?_
    refine lv_aload_n hx hb dX0_take_42 rfl (lv_at hl 0 rfl) ?_
    refine va_get (D := D) (ci := 0) (v := .int (mt + 1)) (C := RX0) (T := TX0) (N := 5) hx hb hG inG_X0 hown hK hP k (wl_at (by omega) hE0) rfl 1 (by decide) (hG _ g_80) (fun _ h9 => h9) rfl dX0_take_43 ?_
    refine wn_iast (j := j) hx hb hK hAd hP hS (by omega) hE1 (by omega) (by decide) dX0_take_46 (fun H locs hP hS => ?_)
    obtain ⟨E2x, hE2x⟩ : ∃ z, z = va_up E1x (k + 1) (.inl (cA 0, 120, .inl (upd mo j (mt + 1)))) := ⟨_, rfl⟩
    have hP : va_P D kcl (wl adr n E2x) H := by rw [hE2x]; exact hP
    have hE0 := (show E2x k = E1x k from by rw [hE2x, va_up_ne _ _ (by omega)]).trans hE0
    have hE1 : E2x (k + 1) = .inl (cA 0, 120, .inl (upd mo j (mt + 1))) := by rw [hE2x, va_up_self]
    have hF : ∀ j, j ≠ k → j ≠ k + 1 → E2x j = E j := fun j z0 z1 => (show E2x j = E1x j from by rw [hE2x, va_up_ne _ _ z1]).trans (hF j z0 z1)
    refine lv_aload_n hx hb dX0_take_47 rfl (lv_at hl 0 rfl) ?_
    refine lv_dup hx hb dX0_take_48 rfl ?_
    refine va_get (D := D) (ci := 0) (v := .int sn) (C := RX0) (T := TX0) (N := 5) hx hb hG inG_X0 hown hK hP k (wl_at (by omega) hE0) rfl 2 (by decide) (hG _ g_82) (fun _ h9 => h9) rfl dX0_take_49 ?_
    refine lv_iconst (v := 1) hx hb dX0_take_52 (by decide) ?_
    refine lv_iadd hx hb dX0_take_53 ?_
    refine wd_put (ci := 0) (C := RX0) (T := TX0) (N := 5) (v := .int (sn + 1)) (ty := .int) hx hb hG inG_X0 tyX0 tyX0_ok nmX0 hown hK hAd hP hS (k0 := k) (by omega) hE0 rfl 2 (by decide) (hG _ g_82) (fun _ h9 => h9) rfl (by decide +kernel) rfl rfl (Nat.le_of_ble_eq_true rfl) dX0_take_54 (fun H locs hP hS => ?_)
    obtain ⟨E3x, hE3x⟩ : ∃ z, z = va_up E2x k (.inr (0, [.ref (adr (k + 1)), .int (mt + 1), .int (sn + 1), .int wt, .int (bI ib)])) := ⟨_, rfl⟩
    have hP : va_P D kcl (wl adr n E3x) H := by rw [hE3x]; exact hP
    have hE0 : E3x k = .inr (0, [.ref (adr (k + 1)), .int (mt + 1), .int (sn + 1), .int wt, .int (bI ib)]) := by rw [hE3x, va_up_self]
    have hE1 := (show E3x (k + 1) = E2x (k + 1) from by rw [hE3x, va_up_ne _ _ (by omega)]).trans hE1
    have hF : ∀ j, j ≠ k → j ≠ k + 1 → E3x j = E j := fun j z0 z1 => (show E3x j = E2x j from by rw [hE3x, va_up_ne _ _ z0]).trans (hF j z0 z1)
    exact W.vret hx hb hr (fun t ht _ => ⟨rfl, E3x, ⟨by rw [n4] at hE0 ⊢; exact hE0, by rw [n4]; exact hE1, hF⟩, by rw [ht]; exact hP, hS.F ht⟩) hS.2.2 dX0_take_57
  · have n4 : ib = true := bI_1.mp c4
    refine lv_aload_n hx hb dX0_take_7 rfl (lv_at hl 0 rfl) ?_
    refine va_get (D := D) (ci := 0) (v := .ref (adr (k + 1))) (C := RX0) (T := TX0) (N := 5) hx hb hG inG_X0 hown hK hP k (wl_at (by omega) hE0) rfl 0 (by decide) (hG _ g_79) (fun _ h9 => h9) rfl dX0_take_8 ?_
    refine lv_iload_n hx hb dX0_take_11 rfl (lv_at hl 1 rfl) ?_
    refine lv_iconst (v := (-1)) hx hb dX0_take_12 (by decide) ?_
    refine wn_iast (j := j) hx hb hK hAd hP hS (by omega) hE1 (by omega) (by decide) dX0_take_13 (fun H locs hP hS => ?_)
    obtain ⟨E4x, hE4x⟩ : ∃ z, z = va_up E (k + 1) (.inl (cA 0, 120, .inl (upd mo j (-1)))) := ⟨_, rfl⟩
    have hP : va_P D kcl (wl adr n E4x) H := by rw [hE4x]; exact hP
    have hE0 := (show E4x k = E k from by rw [hE4x, va_up_ne _ _ (by omega)]).trans hE0
    have hE1 : E4x (k + 1) = .inl (cA 0, 120, .inl (upd mo j (-1))) := by rw [hE4x, va_up_self]
    have hF : ∀ j, j ≠ k → j ≠ k + 1 → E4x j = E j := fun j z0 z1 => (show E4x j = E j from by rw [hE4x, va_up_ne _ _ z1]).trans (hF j z0 z1)
    refine lv_aload_n hx hb dX0_take_14 rfl (lv_at hl 0 rfl) ?_
    refine lv_dup hx hb dX0_take_15 rfl ?_
    refine va_get (D := D) (ci := 0) (v := .int wt) (C := RX0) (T := TX0) (N := 5) hx hb hG inG_X0 hown hK hP k (wl_at (by omega) hE0) rfl 3 (by decide) (hG _ g_84) (fun _ h9 => h9) rfl dX0_take_16 ?_
    refine lv_iconst (v := 1) hx hb dX0_take_19 (by decide) ?_
    refine lv_iadd hx hb dX0_take_20 ?_
    refine wd_put (ci := 0) (C := RX0) (T := TX0) (N := 5) (v := .int (wt + 1)) (ty := .int) hx hb hG inG_X0 tyX0 tyX0_ok nmX0 hown hK hAd hP hS (k0 := k) (by omega) hE0 rfl 3 (by decide) (hG _ g_84) (fun _ h9 => h9) rfl (by decide +kernel) rfl rfl (Nat.le_of_ble_eq_true rfl) dX0_take_21 (fun H locs hP hS => ?_)
    obtain ⟨E5x, hE5x⟩ : ∃ z, z = va_up E4x k (.inr (0, [.ref (adr (k + 1)), .int mt, .int sn, .int (wt + 1), .int (bI ib)])) := ⟨_, rfl⟩
    have hP : va_P D kcl (wl adr n E5x) H := by rw [hE5x]; exact hP
    have hE0 : E5x k = .inr (0, [.ref (adr (k + 1)), .int mt, .int sn, .int (wt + 1), .int (bI ib)]) := by rw [hE5x, va_up_self]
    have hE1 := (show E5x (k + 1) = E4x (k + 1) from by rw [hE5x, va_up_ne _ _ (by omega)]).trans hE1
    have hF : ∀ j, j ≠ k → j ≠ k + 1 → E5x j = E j := fun j z0 z1 => (show E5x j = E4x j from by rw [hE5x, va_up_ne _ _ z0]).trans (hF j z0 z1)
    refine lv_goto (tgt := 57) hx hb dX0_take_24 (by decide) ?_
    exact W.vret hx hb hr (fun t ht _ => ⟨rfl, E5x, ⟨by rw [n4] at hE0 ⊢; exact hE0, by rw [n4]; exact hE1, hF⟩, by rw [ht]; exact hP, hS.F ht⟩) hS.2.2 dX0_take_57

theorem eb_hit {mo : Nat → Int32} {x : Int32} {i : Nat} (j : Nat) (h : mo i = -1) : upd (fun j => if j < i ∧ mo j = -1 then x else mo j) i x j = if j < i + 1 ∧ mo j = -1 then x else mo j := by
  unfold upd
  by_cases hj : j = i
  · subst hj; simp [h]
  · by_cases h2 : j < i
    · simp [hj, h2, show j < i + 1 from by omega]
    · simp [hj, h2, show ¬ j < i + 1 from by omega]
theorem eb_mis {mo : Nat → Int32} {x : Int32} {i : Nat} (j : Nat) (h : ¬ mo i = -1) : (if j < i ∧ mo j = -1 then x else mo j) = if j < i + 1 ∧ mo j = -1 then x else mo j := by
  by_cases hj : j = i
  · subst hj; simp [h]
  · by_cases h2 : j < i
    · simp [h2, show j < i + 1 from by omega]
    · simp [h2, show ¬ j < i + 1 from by omega]
theorem bI_fit (b : Bool) : fits .boolean (.int (bI b)) = true := by cases b <;> rfl

set_option maxHeartbeats 4000000 in
set_option maxRecDepth 100000 in
theorem cX0_endBatch_w {l : Launch} {D : va_G} {cA : Nat → ClassId} {adr : Nat → Nat} {n : Nat} {E : Nat → va_E} {lo : Nat} (hAd : wd_ad lo n adr) {k : Nat} {mo : Nat → Int32} {mt sn wt : Int32} {ib : Bool} (hk : k + 1 < n) (hE0 : E k = .inr (0, [.ref (adr (k + 1)), .int mt, .int sn, .int wt, .int (bI ib)])) (hE1 : E (k + 1) = .inl (cA 0, 120, .inl mo)) : Met l yX0_endBatch (.code yX0_endBatch cX0_endBatch 2 none :: lw_G) ({ frames := 0, cells := 0, slots := 0, locals := 0 } : Room) (va_Pc [.ref (adr k)] (wdU D (kty cA) adr n E)) (wq D lo adr n (none) (fun E2 => E2 k = .inr (0, [.ref (adr (k + 1)), .int (if wt = 0 then mt else mt + 1), .int (if wt = 0 then sn else sn + wt), .int 0, .int (bI false)]) ∧ E2 (k + 1) = .inl (cA 0, 120, .inl (if wt = 0 then mo else fun j => if j < 120 ∧ mo j = -1 then mt + 1 else mo j)) ∧ ∀ j, j ≠ k → j ≠ k + 1 → E2 j = E j)) 0 0 (fun q => lo ≤ q) := by
  refine Met.ofW (cc := cX0_endBatch) (maxL := 2) (ret := none) (by decide) rfl ?_
  intro p e s m args below meth c s₁ B hml hv
  obtain ⟨rfl, hP, hN⟩ := hv
  have hx := B.exec
  have hb := B.bytes
  have hr := B.returns
  have hG : ∀ w ∈ lw_G, w.before _ s = true := fun w h => atoms_spec (ws := _ :: lw_G) B.pre w (List.mem_cons_of_mem _ h)
  have hown : s.vm.findClass RX0 = some m.cls := findClass_of_methodNamed B.named
  have hlocks := B.notSynchronized
  have hK := hN.1
  have hS : va_S (fun q => lo ≤ q) s.heap s.heap [] := va_S.rf
  have hF : ∀ j, j ≠ k → j ≠ k + 1 → E j = E j := fun j _ _ => rfl
  have hl := lv_entry ([.ref (adr k)]) (n := 2) (Nat.le_of_ble_eq_true rfl)
  rw [lg_entry_eq]
  generalize (lg_sl ([.ref (adr k)]) ++ List.replicate (2 - (lg_sl ([.ref (adr k)])).length) Slot.unset).toArray = ls at hl ⊢
  have hl : lv_has ls 2 [(0, .ref (adr k))] := hl
  refine lv_aload_n hx hb dX0_endBatch_0 rfl (lv_at hl 0 rfl) ?_
  refine lv_iconst (v := 0) hx hb dX0_endBatch_1 (by decide) ?_
  refine lv_topi (fun y9 e9 => ?_)
  have e9 : y9 = bI false := e9.trans (bI_f.symm)
  subst e9
  refine wd_put (ci := 0) (C := RX0) (T := TX0) (N := 5) (v := .int (bI false)) (ty := .boolean) hx hb hG inG_X0 tyX0 tyX0_ok nmX0 hown hK hAd hP hS (k0 := k) (by omega) hE0 rfl 4 (by decide) (hG _ g_86) (fun _ h9 => h9) rfl (by decide +kernel) (bI_nar _) (bI_fit _) (Nat.le_of_ble_eq_true rfl) dX0_endBatch_2 (fun H locs hP hS => ?_)
  obtain ⟨E1x, hE1x⟩ : ∃ z, z = va_up E k (.inr (0, [.ref (adr (k + 1)), .int mt, .int sn, .int wt, .int (bI false)])) := ⟨_, rfl⟩
  have hP : va_P D kcl (wl adr n E1x) H := by rw [hE1x]; exact hP
  have hE0 : E1x k = .inr (0, [.ref (adr (k + 1)), .int mt, .int sn, .int wt, .int (bI false)]) := by rw [hE1x, va_up_self]
  have hE1 := (show E1x (k + 1) = E (k + 1) from by rw [hE1x, va_up_ne _ _ (by omega)]).trans hE1
  have hF : ∀ j, j ≠ k → j ≠ k + 1 → E1x j = E j := fun j z0 z1 => (show E1x j = E j from by rw [hE1x, va_up_ne _ _ z0]).trans (hF j z0 z1)
  refine lv_aload_n hx hb dX0_endBatch_5 rfl (lv_at hl 0 rfl) ?_
  refine va_get (D := D) (ci := 0) (v := .int wt) (C := RX0) (T := TX0) (N := 5) hx hb hG inG_X0 hown hK hP k (wl_at (by omega) hE0) rfl 3 (by decide) (hG _ g_84) (fun _ h9 => h9) rfl dX0_endBatch_6 ?_
  refine lv_if_ne (tgt := 13) hx hb dX0_endBatch_9 (by decide) (fun c9 => ?_) (fun c9 => ?_)
  · refine lv_aload_n hx hb dX0_endBatch_13 rfl (lv_at hl 0 rfl) ?_
    refine lv_dup hx hb dX0_endBatch_14 rfl ?_
    refine va_get (D := D) (ci := 0) (v := .int mt) (C := RX0) (T := TX0) (N := 5) hx hb hG inG_X0 hown hK hP k (wl_at (by omega) hE0) rfl 1 (by decide) (hG _ g_80) (fun _ h9 => h9) rfl dX0_endBatch_15 ?_
    refine lv_iconst (v := 1) hx hb dX0_endBatch_18 (by decide) ?_
    refine lv_iadd hx hb dX0_endBatch_19 ?_
    refine wd_put (ci := 0) (C := RX0) (T := TX0) (N := 5) (v := .int (mt + 1)) (ty := .int) hx hb hG inG_X0 tyX0 tyX0_ok nmX0 hown hK hAd hP hS (k0 := k) (by omega) hE0 rfl 1 (by decide) (hG _ g_80) (fun _ h9 => h9) rfl (by decide +kernel) rfl rfl (Nat.le_of_ble_eq_true rfl) dX0_endBatch_20 (fun H locs hP hS => ?_)
    obtain ⟨E2x, hE2x⟩ : ∃ z, z = va_up E1x k (.inr (0, [.ref (adr (k + 1)), .int (mt + 1), .int sn, .int wt, .int (bI false)])) := ⟨_, rfl⟩
    have hP : va_P D kcl (wl adr n E2x) H := by rw [hE2x]; exact hP
    have hE0 : E2x k = .inr (0, [.ref (adr (k + 1)), .int (mt + 1), .int sn, .int wt, .int (bI false)]) := by rw [hE2x, va_up_self]
    have hE1 := (show E2x (k + 1) = E1x (k + 1) from by rw [hE2x, va_up_ne _ _ (by omega)]).trans hE1
    have hF : ∀ j, j ≠ k → j ≠ k + 1 → E2x j = E j := fun j z0 z1 => (show E2x j = E1x j from by rw [hE2x, va_up_ne _ _ z0]).trans (hF j z0 z1)
    refine lv_iconst (v := 0) hx hb dX0_endBatch_23 (by decide) ?_
    refine lv_istore_n (lv' := [(1, .int 0), (0, .ref (adr k))]) hx hb dX0_endBatch_24 rfl hl (by decide) rfl (fun ls hl => ?_)
    have L25 : ∀ (f : Nat) (i : Nat) (E1 : Nat → va_E) (H : Heap) (locs : List Loc), 120 - i < f → i ≤ 120 → E1 k = .inr (0, [.ref (adr (k + 1)), .int (mt + 1), .int sn, .int wt, .int (bI false)]) → E1 (k + 1) = .inl (cA 0, 120, .inl (fun j => if j < i ∧ mo j = -1 then mt + 1 else mo j)) → (∀ j, j ≠ k → j ≠ k + 1 → E1 j = E j) → va_P D kcl (wl adr n E1) H → va_S (fun q => lo ≤ q) s.heap H locs → ∀ ls : Array Slot, lv_has ls 2 [(1, .int (nI i)), (0, .ref (adr k))] → W p l e (headSpec (.code yX0_endBatch cX0_endBatch 2 none :: lw_G) ({ frames := 0, cells := 0, slots := 0, locals := 0 } : Room)).room s m [.ref (adr k)].toArray below meth c H locs 0 0 (MQ below (wq D lo adr n (none) (fun E2 => E2 k = .inr (0, [.ref (adr (k + 1)), .int (if wt = 0 then mt else mt + 1), .int (if wt = 0 then sn else sn + wt), .int 0, .int (bI false)]) ∧ E2 (k + 1) = .inl (cA 0, 120, .inl (if wt = 0 then mo else fun j => if j < 120 ∧ mo j = -1 then mt + 1 else mo j)) ∧ ∀ j, j ≠ k → j ≠ k + 1 → E2 j = E j)) [.ref (adr k)].toArray s 0 0 (fun q => lo ≤ q)) (F0 m 25 ls []) := by
      intro f
      induction f with
      | zero => intro i E1 H locs h0; exact absurd h0 (by omega)
      | succ f ih =>
        intro i E1 H locs hf hi hE0 hE1 hF hP hS ls hl
        refine lv_iload_n hx hb dX0_endBatch_25 rfl (lv_at hl 0 rfl) ?_
        refine lv_bipush (v := 120) hx hb dX0_endBatch_26 (by decide) ?_
        refine lv_icmp_ge (tgt := 57) hx hb dX0_endBatch_28 (by decide) (fun c28 => ?_) (fun c28 => ?_)
        · have n28 : 120 ≤ i := (nI_leI (a := 120) (b := i) (by omega) (by omega)).mp c28
          refine lv_aload_n hx hb dX0_endBatch_57 rfl (lv_at hl 1 rfl) ?_
          refine lv_dup hx hb dX0_endBatch_58 rfl ?_
          refine va_get (D := D) (ci := 0) (v := .int sn) (C := RX0) (T := TX0) (N := 5) hx hb hG inG_X0 hown hK hP k (wl_at (by omega) hE0) rfl 2 (by decide) (hG _ g_82) (fun _ h9 => h9) rfl dX0_endBatch_59 ?_
          refine lv_aload_n hx hb dX0_endBatch_62 rfl (lv_at hl 1 rfl) ?_
          refine va_get (D := D) (ci := 0) (v := .int wt) (C := RX0) (T := TX0) (N := 5) hx hb hG inG_X0 hown hK hP k (wl_at (by omega) hE0) rfl 3 (by decide) (hG _ g_84) (fun _ h9 => h9) rfl dX0_endBatch_63 ?_
          refine lv_iadd hx hb dX0_endBatch_66 ?_
          refine wd_put (ci := 0) (C := RX0) (T := TX0) (N := 5) (v := .int (sn + wt)) (ty := .int) hx hb hG inG_X0 tyX0 tyX0_ok nmX0 hown hK hAd hP hS (k0 := k) (by omega) hE0 rfl 2 (by decide) (hG _ g_82) (fun _ h9 => h9) rfl (by decide +kernel) rfl rfl (Nat.le_of_ble_eq_true rfl) dX0_endBatch_67 (fun H locs hP hS => ?_)
          obtain ⟨E3x, hE3x⟩ : ∃ z, z = va_up E1 k (.inr (0, [.ref (adr (k + 1)), .int (mt + 1), .int (sn + wt), .int wt, .int (bI false)])) := ⟨_, rfl⟩
          have hP : va_P D kcl (wl adr n E3x) H := by rw [hE3x]; exact hP
          have hE0 : E3x k = .inr (0, [.ref (adr (k + 1)), .int (mt + 1), .int (sn + wt), .int wt, .int (bI false)]) := by rw [hE3x, va_up_self]
          have hE1 := (show E3x (k + 1) = E1 (k + 1) from by rw [hE3x, va_up_ne _ _ (by omega)]).trans hE1
          have hF : ∀ j, j ≠ k → j ≠ k + 1 → E3x j = E j := fun j z0 z1 => (show E3x j = E1 j from by rw [hE3x, va_up_ne _ _ z0]).trans (hF j z0 z1)
          refine lv_aload_n hx hb dX0_endBatch_70 rfl (lv_at hl 1 rfl) ?_
          refine lv_iconst (v := 0) hx hb dX0_endBatch_71 (by decide) ?_
          refine wd_put (ci := 0) (C := RX0) (T := TX0) (N := 5) (v := .int 0) (ty := .int) hx hb hG inG_X0 tyX0 tyX0_ok nmX0 hown hK hAd hP hS (k0 := k) (by omega) hE0 rfl 3 (by decide) (hG _ g_84) (fun _ h9 => h9) rfl (by decide +kernel) rfl rfl (Nat.le_of_ble_eq_true rfl) dX0_endBatch_72 (fun H locs hP hS => ?_)
          obtain ⟨E4x, hE4x⟩ : ∃ z, z = va_up E3x k (.inr (0, [.ref (adr (k + 1)), .int (mt + 1), .int (sn + wt), .int 0, .int (bI false)])) := ⟨_, rfl⟩
          have hP : va_P D kcl (wl adr n E4x) H := by rw [hE4x]; exact hP
          have hE0 : E4x k = .inr (0, [.ref (adr (k + 1)), .int (mt + 1), .int (sn + wt), .int 0, .int (bI false)]) := by rw [hE4x, va_up_self]
          have hE1 := (show E4x (k + 1) = E3x (k + 1) from by rw [hE4x, va_up_ne _ _ (by omega)]).trans hE1
          have hF : ∀ j, j ≠ k → j ≠ k + 1 → E4x j = E j := fun j z0 z1 => (show E4x j = E3x j from by rw [hE4x, va_up_ne _ _ z0]).trans (hF j z0 z1)
          exact W.vret hx hb hr (fun t ht _ => ⟨rfl, E4x, ⟨by rw [if_neg c9, if_neg c9]; exact hE0, by rw [if_neg c9]; rw [show i = 120 from by omega] at hE1; exact hE1, hF⟩, by rw [ht]; exact hP, hS.F ht⟩) hS.2.2 dX0_endBatch_75
        · have n28 : ¬ 120 ≤ i := fun h => c28 ((nI_leI (a := 120) (b := i) (by omega) (by omega)).mpr h)
          refine lv_aload_n hx hb dX0_endBatch_31 rfl (lv_at hl 1 rfl) ?_
          refine va_get (D := D) (ci := 0) (v := .ref (adr (k + 1))) (C := RX0) (T := TX0) (N := 5) hx hb hG inG_X0 hown hK hP k (wl_at (by omega) hE0) rfl 0 (by decide) (hG _ g_79) (fun _ h9 => h9) rfl dX0_endBatch_32 ?_
          refine lv_iload_n hx hb dX0_endBatch_35 rfl (lv_at hl 0 rfl) ?_
          refine wn_iald (j := i) hx hb hK hP (by omega) hE1 (by omega) (by decide) dX0_endBatch_36 ?_
          refine lv_iconst (v := (-1)) hx hb dX0_endBatch_37 (by decide) ?_
          refine lv_icmp_ne (tgt := 51) hx hb dX0_endBatch_38 (by decide) (fun c38 => ?_) (fun c38 => ?_)
          · have h38 : ¬ mo i = -1 := by simpa using c38
            refine lv_iinc (v := nI (i + 1)) (lv' := [(1, .int (nI (i + 1))), (0, .ref (adr k))]) hx hb dX0_endBatch_51 hl (k := 0) rfl (nI_1 _) (by decide) rfl (fun ls hl => ?_)
            refine lv_goto (tgt := 25) hx hb dX0_endBatch_54 (by decide) ?_
            exact ih (i + 1) E1 _ _ (by omega) (by omega) hE0 (hE1.trans (congrArg (fun z => Sum.inl (cA 0, 120, Sum.inl z)) (funext fun j => by exact eb_mis j h38))) hF hP hS ls (lv_sub hl [0, 1] rfl)
          · have h38 : mo i = -1 := by simpa using c38
            refine lv_aload_n hx hb dX0_endBatch_41 rfl (lv_at hl 1 rfl) ?_
            refine va_get (D := D) (ci := 0) (v := .ref (adr (k + 1))) (C := RX0) (T := TX0) (N := 5) hx hb hG inG_X0 hown hK hP k (wl_at (by omega) hE0) rfl 0 (by decide) (hG _ g_79) (fun _ h9 => h9) rfl dX0_endBatch_42 ?_
            refine lv_iload_n hx hb dX0_endBatch_45 rfl (lv_at hl 0 rfl) ?_
            refine lv_aload_n hx hb dX0_endBatch_46 rfl (lv_at hl 1 rfl) ?_
            refine va_get (D := D) (ci := 0) (v := .int (mt + 1)) (C := RX0) (T := TX0) (N := 5) hx hb hG inG_X0 hown hK hP k (wl_at (by omega) hE0) rfl 1 (by decide) (hG _ g_80) (fun _ h9 => h9) rfl dX0_endBatch_47 ?_
            refine wn_iast (j := i) hx hb hK hAd hP hS (by omega) hE1 (by omega) (by decide) dX0_endBatch_50 (fun H locs hP hS => ?_)
            obtain ⟨E5x, hE5x⟩ : ∃ z, z = va_up E1 (k + 1) (.inl (cA 0, 120, .inl (upd (fun j => if j < i ∧ mo j = -1 then mt + 1 else mo j) i (mt + 1)))) := ⟨_, rfl⟩
            have hP : va_P D kcl (wl adr n E5x) H := by rw [hE5x]; exact hP
            have hE0 := (show E5x k = E1 k from by rw [hE5x, va_up_ne _ _ (by omega)]).trans hE0
            have hE1 : E5x (k + 1) = .inl (cA 0, 120, .inl (upd (fun j => if j < i ∧ mo j = -1 then mt + 1 else mo j) i (mt + 1))) := by rw [hE5x, va_up_self]
            have hF : ∀ j, j ≠ k → j ≠ k + 1 → E5x j = E j := fun j z0 z1 => (show E5x j = E1 j from by rw [hE5x, va_up_ne _ _ z1]).trans (hF j z0 z1)
            refine lv_iinc (v := nI (i + 1)) (lv' := [(1, .int (nI (i + 1))), (0, .ref (adr k))]) hx hb dX0_endBatch_51 hl (k := 0) rfl (nI_1 _) (by decide) rfl (fun ls hl => ?_)
            refine lv_goto (tgt := 25) hx hb dX0_endBatch_54 (by decide) ?_
            exact ih (i + 1) E5x _ _ (by omega) (by omega) hE0 (hE1.trans (congrArg (fun z => Sum.inl (cA 0, 120, Sum.inl z)) (funext fun j => by exact eb_hit j h38))) hF hP hS ls (lv_sub hl [0, 1] rfl)
    exact L25 (120 + 1) 0 E2x _ _ (by omega) (by omega) hE0 (hE1.trans (congrArg (fun z => Sum.inl (cA 0, 120, Sum.inl z)) (funext fun j => by simp))) hF hP hS ls (lv_sub hl [0, 1] rfl)
  · exact W.vret hx hb hr (fun t ht _ => ⟨rfl, E1x, ⟨by rw [if_pos c9, if_pos c9]; rw [c9] at hE0; exact hE0, by rw [if_pos c9]; exact hE1, hF⟩, by rw [ht]; exact hP, hS.F ht⟩) hS.2.2 dX0_endBatch_12

theorem st_hit {nm : Nat → Nat} {sd : Nat → Bool} {r i : Nat} {b : Bool} (j : Nat) (h : nm r = nm i) (hb : b = decide (r = i)) : upZ (fun j => if j < r ∧ nm j = nm i then decide (j = i) else sd j) r b j = if j < r + 1 ∧ nm j = nm i then decide (j = i) else sd j := by
  unfold upZ
  by_cases hj : j = r
  · subst hj; simp [h, hb]
  · by_cases h2 : j < r
    · simp [hj, h2, show j < r + 1 from by omega]
    · simp [hj, h2, show ¬ j < r + 1 from by omega]
theorem st_mis {nm : Nat → Nat} {sd : Nat → Bool} {r i : Nat} (j : Nat) (h : ¬ nm r = nm i) : (if j < r ∧ nm j = nm i then decide (j = i) else sd j) = if j < r + 1 ∧ nm j = nm i then decide (j = i) else sd j := by
  by_cases hj : j = r
  · subst hj; simp [h]
  · by_cases h2 : j < r
    · simp [h2, show j < r + 1 from by omega]
    · simp [h2, show ¬ j < r + 1 from by omega]

set_option maxHeartbeats 4000000 in
set_option maxRecDepth 100000 in
theorem cX2_settleOn_w {l : Launch} {D : va_G} {cA : Nat → ClassId} {adr : Nat → Nat} {n : Nat} {E : Nat → va_E} {lo : Nat} (hAd : wd_ad lo n adr) {k ct : Nat} {nm td : Nat → Nat} {vl : Nat → Int32} {sd : Nat → Bool} (hk : k + 4 < n) (hct : ct ≤ 120) (hE0 : E k = .inr (2, [.ref (adr (k + 1)), .ref (adr (k + 2)), .ref (adr (k + 3)), .ref (adr (k + 4)), .int (nI ct)])) (hE1 : E (k + 1) = .inl (cA 0, 120, .inl (fun j => nI (nm j)))) (hE2 : E (k + 2) = .inl (cA 0, 120, .inl (fun j => nI (td j)))) (hE3 : E (k + 3) = .inl (cA 0, 120, .inl vl)) (hE4 : E (k + 4) = .inl (cA 1, 120, .inl (fun j => bI (sd j)))) (hnm : ∀ j, nm j < 2560) (htd : ∀ j, td j < 2 ^ 30) {i : Nat} (hi2 : i < 120) : Met l yX2_settleOn (.code yX2_settleOn cX2_settleOn 3 none :: lw_G) ({ frames := 0, cells := 0, slots := 0, locals := 0 } : Room) (va_Pc [.ref (adr k), .int (nI i)] (wdU D (kty cA) adr n E)) (wq D lo adr n (none) (fun E2 => E2 (k + 4) = .inl (cA 1, 120, .inl (fun j => bI ((fun j => if j < ct ∧ nm j = nm i then decide (j = i) else sd j) j))) ∧ ∀ j, j ≠ k + 4 → E2 j = E j)) 0 0 (fun q => lo ≤ q) := by
  refine Met.ofW (cc := cX2_settleOn) (maxL := 3) (ret := none) (by decide) rfl ?_
  intro p e s m args below meth c s₁ B hml hv
  obtain ⟨rfl, hP, hN⟩ := hv
  have hx := B.exec
  have hb := B.bytes
  have hr := B.returns
  have hG : ∀ w ∈ lw_G, w.before _ s = true := fun w h => atoms_spec (ws := _ :: lw_G) B.pre w (List.mem_cons_of_mem _ h)
  have hown : s.vm.findClass RX2 = some m.cls := findClass_of_methodNamed B.named
  have hlocks := B.notSynchronized
  have hK := hN.1
  have hS : va_S (fun q => lo ≤ q) s.heap s.heap [] := va_S.rf
  have hF : ∀ j, j ≠ k + 4 → E j = E j := fun j _ => rfl
  have hl := lv_entry ([.ref (adr k), .int (nI i)]) (n := 3) (Nat.le_of_ble_eq_true rfl)
  rw [lg_entry_eq]
  generalize (lg_sl ([.ref (adr k), .int (nI i)]) ++ List.replicate (3 - (lg_sl ([.ref (adr k), .int (nI i)])).length) Slot.unset).toArray = ls at hl ⊢
  have hl : lv_has ls 3 [(0, .ref (adr k)), (1, .int (nI i))] := hl
  refine lv_iconst (v := 0) hx hb dX2_settleOn_0 (by decide) ?_
  refine lv_istore_n (lv' := [(2, .int 0), (0, .ref (adr k)), (1, .int (nI i))]) hx hb dX2_settleOn_1 rfl hl (by decide) rfl (fun ls hl => ?_)
  have L2 : ∀ (f : Nat) (r : Nat) (E1 : Nat → va_E) (H : Heap) (locs : List Loc), ct - r < f → r ≤ ct → E1 k = .inr (2, [.ref (adr (k + 1)), .ref (adr (k + 2)), .ref (adr (k + 3)), .ref (adr (k + 4)), .int (nI ct)]) → E1 (k + 1) = .inl (cA 0, 120, .inl (fun j => nI (nm j))) → E1 (k + 2) = .inl (cA 0, 120, .inl (fun j => nI (td j))) → E1 (k + 3) = .inl (cA 0, 120, .inl vl) → E1 (k + 4) = .inl (cA 1, 120, .inl (fun j => bI ((fun j => if j < r ∧ nm j = nm i then decide (j = i) else sd j) j))) → (∀ j, j ≠ k + 4 → E1 j = E j) → va_P D kcl (wl adr n E1) H → va_S (fun q => lo ≤ q) s.heap H locs → ∀ ls : Array Slot, lv_has ls 3 [(2, .int (nI r)), (0, .ref (adr k)), (1, .int (nI i))] → W p l e (headSpec (.code yX2_settleOn cX2_settleOn 3 none :: lw_G) ({ frames := 0, cells := 0, slots := 0, locals := 0 } : Room)).room s m [.ref (adr k), .int (nI i)].toArray below meth c H locs 0 0 (MQ below (wq D lo adr n (none) (fun E2 => E2 (k + 4) = .inl (cA 1, 120, .inl (fun j => bI ((fun j => if j < ct ∧ nm j = nm i then decide (j = i) else sd j) j))) ∧ ∀ j, j ≠ k + 4 → E2 j = E j)) [.ref (adr k), .int (nI i)].toArray s 0 0 (fun q => lo ≤ q)) (F0 m 2 ls []) := by
    intro f
    induction f with
    | zero => intro r E1 H locs h0; exact absurd h0 (by omega)
    | succ f ih =>
      intro r E1 H locs hf hr2 hE0 hE1 hE2 hE3 hE4 hF hP hS ls hl
      refine lv_iload_n hx hb dX2_settleOn_2 rfl (lv_at hl 0 rfl) ?_
      refine lv_aload_n hx hb dX2_settleOn_3 rfl (lv_at hl 1 rfl) ?_
      refine va_get (D := D) (ci := 2) (v := .int (nI ct)) (C := RX2) (T := TX2) (N := 5) hx hb hG inG_X2 hown hK hP k (wl_at (by omega) hE0) rfl 4 (by decide) (hG _ g_40) (fun _ h9 => h9) rfl dX2_settleOn_4 ?_
      refine lv_icmp_ge (tgt := 47) hx hb dX2_settleOn_7 (by decide) (fun c7 => ?_) (fun c7 => ?_)
      · have n7 : ct ≤ r := (nI_leI (a := ct) (b := r) (by omega) (by omega)).mp c7
        exact W.vret hx hb hr (fun t ht _ => ⟨rfl, E1, ⟨by rw [show r = ct from by omega] at hE4; exact hE4, hF⟩, by rw [ht]; exact hP, hS.F ht⟩) hS.2.2 dX2_settleOn_47
      · have n7 : ¬ ct ≤ r := fun h => c7 ((nI_leI (a := ct) (b := r) (by omega) (by omega)).mpr h)
        have b1 := hnm r
        have b2 := hnm i
        refine lv_aload_n hx hb dX2_settleOn_10 rfl (lv_at hl 1 rfl) ?_
        refine va_get (D := D) (ci := 2) (v := .ref (adr (k + 1))) (C := RX2) (T := TX2) (N := 5) hx hb hG inG_X2 hown hK hP k (wl_at (by omega) hE0) rfl 0 (by decide) (hG _ g_32) (fun _ h9 => h9) rfl dX2_settleOn_11 ?_
        refine lv_iload_n hx hb dX2_settleOn_14 rfl (lv_at hl 0 rfl) ?_
        refine wn_iald (j := r) hx hb hK hP (by omega) hE1 (by omega) (by decide) dX2_settleOn_15 ?_
        refine lv_aload_n hx hb dX2_settleOn_16 rfl (lv_at hl 1 rfl) ?_
        refine va_get (D := D) (ci := 2) (v := .ref (adr (k + 1))) (C := RX2) (T := TX2) (N := 5) hx hb hG inG_X2 hown hK hP k (wl_at (by omega) hE0) rfl 0 (by decide) (hG _ g_32) (fun _ h9 => h9) rfl dX2_settleOn_17 ?_
        refine lv_iload_n hx hb dX2_settleOn_20 rfl (lv_at hl 2 rfl) ?_
        refine wn_iald (j := i) hx hb hK hP (by omega) hE1 (by omega) (by decide) dX2_settleOn_21 ?_
        refine lv_icmp_ne (tgt := 41) hx hb dX2_settleOn_22 (by decide) (fun c22 => ?_) (fun c22 => ?_)
        · have n22 : ¬ (nm r) = (nm i) := fun h => c22 ((nI_eq (a := (nm r)) (b := (nm i)) (by omega) (by omega)).mpr h)
          refine lv_iinc (v := nI (r + 1)) (lv' := [(2, .int (nI (r + 1))), (0, .ref (adr k)), (1, .int (nI i))]) hx hb dX2_settleOn_41 hl (k := 0) rfl (nI_1 _) (by decide) rfl (fun ls hl => ?_)
          refine lv_goto (tgt := 2) hx hb dX2_settleOn_44 (by decide) ?_
          exact ih (r + 1) E1 _ _ (by omega) (by omega) hE0 hE1 hE2 hE3 (hE4.trans (congrArg (fun z => Sum.inl (cA 1, 120, Sum.inl z)) (funext fun j => congrArg bI (st_mis j n22)))) hF hP hS ls (lv_sub hl [0, 1, 2] rfl)
        · have n22 : (nm r) = (nm i) := (nI_eq (a := (nm r)) (b := (nm i)) (by omega) (by omega)).mp c22
          refine lv_aload_n hx hb dX2_settleOn_25 rfl (lv_at hl 1 rfl) ?_
          refine va_get (D := D) (ci := 2) (v := .ref (adr (k + 4))) (C := RX2) (T := TX2) (N := 5) hx hb hG inG_X2 hown hK hP k (wl_at (by omega) hE0) rfl 3 (by decide) (hG _ g_38) (fun _ h9 => h9) rfl dX2_settleOn_26 ?_
          refine lv_iload_n hx hb dX2_settleOn_29 rfl (lv_at hl 0 rfl) ?_
          refine lv_iload_n hx hb dX2_settleOn_30 rfl (lv_at hl 0 rfl) ?_
          refine lv_iload_n hx hb dX2_settleOn_31 rfl (lv_at hl 2 rfl) ?_
          refine lv_icmp_ne (tgt := 39) hx hb dX2_settleOn_32 (by decide) (fun c32 => ?_) (fun c32 => ?_)
          · have n32 : ¬ r = i := fun h => c32 ((nI_eq (a := r) (b := i) (by omega) (by omega)).mpr h)
            refine lv_iconst (v := 0) hx hb dX2_settleOn_39 (by decide) ?_
            refine lv_topi (fun y9 e9 => ?_)
            have e9 : y9 = bI false := e9.trans (bI_f.symm)
            subst e9
            refine wn_zast (j := r) hx hb hK hAd hP hS (by omega) hE4 (by omega) (by decide) dX2_settleOn_40 (fun H locs hP hS => ?_)
            rw [upd_bI] at hP
            obtain ⟨E1x, hE1x⟩ : ∃ z, z = va_up E1 (k + 4) (.inl (cA 1, 120, .inl (fun j => bI (upZ (fun j => if j < r ∧ nm j = nm i then decide (j = i) else sd j) r false j)))) := ⟨_, rfl⟩
            have hP : va_P D kcl (wl adr n E1x) H := by rw [hE1x]; exact hP
            have hE0 := (show E1x k = E1 k from by rw [hE1x, va_up_ne _ _ (by omega)]).trans hE0
            have hE1 := (show E1x (k + 1) = E1 (k + 1) from by rw [hE1x, va_up_ne _ _ (by omega)]).trans hE1
            have hE2 := (show E1x (k + 2) = E1 (k + 2) from by rw [hE1x, va_up_ne _ _ (by omega)]).trans hE2
            have hE3 := (show E1x (k + 3) = E1 (k + 3) from by rw [hE1x, va_up_ne _ _ (by omega)]).trans hE3
            have hE4 : E1x (k + 4) = .inl (cA 1, 120, .inl (fun j => bI (upZ (fun j => if j < r ∧ nm j = nm i then decide (j = i) else sd j) r false j))) := by rw [hE1x, va_up_self]
            have hF : ∀ j, j ≠ k + 4 → E1x j = E j := fun j z0 => (show E1x j = E1 j from by rw [hE1x, va_up_ne _ _ z0]).trans (hF j z0)
            refine lv_iinc (v := nI (r + 1)) (lv' := [(2, .int (nI (r + 1))), (0, .ref (adr k)), (1, .int (nI i))]) hx hb dX2_settleOn_41 hl (k := 0) rfl (nI_1 _) (by decide) rfl (fun ls hl => ?_)
            refine lv_goto (tgt := 2) hx hb dX2_settleOn_44 (by decide) ?_
            exact ih (r + 1) E1x _ _ (by omega) (by omega) hE0 hE1 hE2 hE3 (hE4.trans (congrArg (fun z => Sum.inl (cA 1, 120, Sum.inl z)) (funext fun j => congrArg bI (st_hit j (by omega) (by first | (rw [decide_eq_true n32]) | (rw [decide_eq_false n32])))))) hF hP hS ls (lv_sub hl [0, 1, 2] rfl)
          · have n32 : r = i := (nI_eq (a := r) (b := i) (by omega) (by omega)).mp c32
            refine lv_iconst (v := 1) hx hb dX2_settleOn_35 (by decide) ?_
            refine lv_goto (tgt := 40) hx hb dX2_settleOn_36 (by decide) ?_
            refine lv_topi (fun y9 e9 => ?_)
            have e9 : y9 = bI true := e9.trans (bI_t.symm)
            subst e9
            refine wn_zast (j := r) hx hb hK hAd hP hS (by omega) hE4 (by omega) (by decide) dX2_settleOn_40 (fun H locs hP hS => ?_)
            rw [upd_bI] at hP
            obtain ⟨E2x, hE2x⟩ : ∃ z, z = va_up E1 (k + 4) (.inl (cA 1, 120, .inl (fun j => bI (upZ (fun j => if j < r ∧ nm j = nm i then decide (j = i) else sd j) r true j)))) := ⟨_, rfl⟩
            have hP : va_P D kcl (wl adr n E2x) H := by rw [hE2x]; exact hP
            have hE0 := (show E2x k = E1 k from by rw [hE2x, va_up_ne _ _ (by omega)]).trans hE0
            have hE1 := (show E2x (k + 1) = E1 (k + 1) from by rw [hE2x, va_up_ne _ _ (by omega)]).trans hE1
            have hE2 := (show E2x (k + 2) = E1 (k + 2) from by rw [hE2x, va_up_ne _ _ (by omega)]).trans hE2
            have hE3 := (show E2x (k + 3) = E1 (k + 3) from by rw [hE2x, va_up_ne _ _ (by omega)]).trans hE3
            have hE4 : E2x (k + 4) = .inl (cA 1, 120, .inl (fun j => bI (upZ (fun j => if j < r ∧ nm j = nm i then decide (j = i) else sd j) r true j))) := by rw [hE2x, va_up_self]
            have hF : ∀ j, j ≠ k + 4 → E2x j = E j := fun j z0 => (show E2x j = E1 j from by rw [hE2x, va_up_ne _ _ z0]).trans (hF j z0)
            refine lv_iinc (v := nI (r + 1)) (lv' := [(2, .int (nI (r + 1))), (0, .ref (adr k)), (1, .int (nI i))]) hx hb dX2_settleOn_41 hl (k := 0) rfl (nI_1 _) (by decide) rfl (fun ls hl => ?_)
            refine lv_goto (tgt := 2) hx hb dX2_settleOn_44 (by decide) ?_
            exact ih (r + 1) E2x _ _ (by omega) (by omega) hE0 hE1 hE2 hE3 (hE4.trans (congrArg (fun z => Sum.inl (cA 1, 120, Sum.inl z)) (funext fun j => congrArg bI (st_hit j (by omega) (by first | (rw [decide_eq_true n32]) | (rw [decide_eq_false n32])))))) hF hP hS ls (lv_sub hl [0, 1, 2] rfl)
  exact L2 (ct + 1) 0 E _ _ (by omega) (by omega) hE0 hE1 hE2 hE3 (hE4.trans (congrArg (fun z => Sum.inl (cA 1, 120, Sum.inl z)) (funext fun j => by simp))) hF hP hS ls (lv_sub hl [0, 1, 2] rfl)
end
section
/-! THE CLASS'S STATE, and how it lies in the world: roles 0 the object, 1 tellers, 2 desks, 3 kept (3+1 .. 3+4 its rows), 8 heard, 9+2d a desk and its row, 15+3t a teller and its two rows -/
abbrev CS : Type := Nat × (Nat → Nat) × (Nat → Nat) × (Nat → Int32) × (Nat → Bool) × (Nat → Nat → Int32) × (Nat → Int32) × (Nat → Int32) × (Nat → Int32) × (Nat → Bool) × (Nat → Nat) × (Nat → Nat) × (Nat → Nat → Int32) × (Nat → Nat → Int32)
abbrev c_ct (S : CS) : Nat := S.1
abbrev c_nm (S : CS) : Nat → Nat := S.2.1
abbrev c_td (S : CS) : Nat → Nat := S.2.2.1
abbrev c_vl (S : CS) : Nat → Int32 := S.2.2.2.1
abbrev c_sd (S : CS) : Nat → Bool := S.2.2.2.2.1
abbrev c_mo (S : CS) : Nat → Nat → Int32 := S.2.2.2.2.2.1
abbrev c_mt (S : CS) : Nat → Int32 := S.2.2.2.2.2.2.1
abbrev c_sn (S : CS) : Nat → Int32 := S.2.2.2.2.2.2.2.1
abbrev c_wt (S : CS) : Nat → Int32 := S.2.2.2.2.2.2.2.2.1
abbrev c_ib (S : CS) : Nat → Bool := S.2.2.2.2.2.2.2.2.2.1
abbrev c_mk (S : CS) : Nat → Nat := S.2.2.2.2.2.2.2.2.2.2.1
abbrev c_lf (S : CS) : Nat → Nat := S.2.2.2.2.2.2.2.2.2.2.2.1
abbrev c_ow (S : CS) : Nat → Nat → Int32 := S.2.2.2.2.2.2.2.2.2.2.2.2.1
abbrev c_re (S : CS) : Nat → Nat → Int32 := S.2.2.2.2.2.2.2.2.2.2.2.2.2
def Rep (cA : Nat → ClassId) (adr : Nat → Nat) (S : CS) (E : Nat → va_E) : Prop :=
  E 0 = .inr (3, [.ref (adr 1), .ref (adr 2), .ref (adr 3), .ref (adr 8)]) ∧
  E 1 = .inl (cA 2, 5, .inr (.inr (.inr (.inr (fun j => some (adr (15 + 3 * j))))))) ∧
  E 2 = .inl (cA 3, 3, .inr (.inr (.inr (.inr (fun j => some (adr (9 + 2 * j))))))) ∧
  E 3 = .inr (2, [.ref (adr (3 + 1)), .ref (adr (3 + 2)), .ref (adr (3 + 3)), .ref (adr (3 + 4)), .int (nI (c_ct S))]) ∧
  E (3 + 1) = .inl (cA 0, 120, .inl (fun j => nI (c_nm S j))) ∧ E (3 + 2) = .inl (cA 0, 120, .inl (fun j => nI (c_td S j))) ∧ E (3 + 3) = .inl (cA 0, 120, .inl (c_vl S)) ∧ E (3 + 4) = .inl (cA 1, 120, .inl (fun j => bI (c_sd S j))) ∧
  (∃ hd : Nat → Bool, E 8 = .inl (cA 1, 100, .inl (fun j => bI (hd j)))) ∧
  (∀ d, d < 3 → E (9 + 2 * d) = .inr (0, [.ref (adr (9 + 2 * d + 1)), .int (c_mt S d), .int (c_sn S d), .int (c_wt S d), .int (bI (c_ib S d))]) ∧ E (9 + 2 * d + 1) = .inl (cA 0, 120, .inl (c_mo S d))) ∧
  (∀ t, t < 5 → E (15 + 3 * t) = .inr (1, [.ref (adr (15 + 3 * t + 1)), .ref (adr (15 + 3 * t + 2)), .int (nI (c_mk S t)), .int (nI (c_lf S t))]) ∧ E (15 + 3 * t + 1) = .inl (cA 0, 6, .inl (c_ow S t)) ∧ E (15 + 3 * t + 2) = .inl (cA 0, 6, .inl (c_re S t))) ∧
  c_ct S ≤ 120 ∧ (∀ j, c_nm S j < 2560) ∧ (∀ j, c_td S j < 2 ^ 30) ∧ (∀ t, t < 5 → c_mk S t ≤ 6) ∧ (∀ t, t < 5 → c_lf S t ≤ 3)
def c_rv (S : CS) (i j : Nat) : Bool := !decide (i = j) && decide (c_nm S i = c_nm S j)
def c_has (S : CS) (d j : Nat) : Bool := !decide (c_mo S d j = 0)
def c_see (S : CS) (d j : Nat) : Bool := decide (0 < c_mo S d j)
def c_had (S : CS) (d j : Nat) (by_ : Int32) : Bool := decide (0 < c_mo S d j) && decide (c_mo S d j ≤ by_)
def c_beg (S : CS) (d i : Nat) : Bool := !c_sd S i && (!anB (fun r => c_rv S i r && c_see S d r && (decide (r < i) || c_sd S r)) (c_ct S)) && anB (fun r => c_rv S i r && c_see S d r) (c_ct S)
def c_cnt (S : CS) (d i : Nat) (m : Int32) : Bool := c_sd S i || !anB (fun r => c_rv S i r && (c_sd S r || c_had S d r m)) (c_ct S)
def c_rt (S : CS) (i : Nat) : Int32 := rt (c_mk S (c_nm S i / 512)) (c_ow S (c_nm S i / 512)) (c_re S (c_nm S i / 512)) (nI (c_td S i % 2 ^ 20))
def c_rk (S : CS) (i : Nat) : Nat := c_nm S i / 128 % 4 * 1024 + c_nm S i / 512 * 128 + c_nm S i % 128
def c_ltr (S : CS) (i j : Nat) : Bool := if c_rt S i = c_rt S j then decide (c_rk S j < c_rk S i) else decide (c_rt S j < c_rt S i)
def lsB (P : Nat → Bool) (L : Nat → Nat → Bool) : Nat → Option Nat
  | 0 => none
  | n + 1 => if P n && (match lsB P L n with | none => true | some b => L n b) then some n else lsB P L n
theorem lsB_lt {P : Nat → Bool} {L : Nat → Nat → Bool} {n b : Nat} (h : lsB P L n = some b) : b < n := by
  induction n with
  | zero => cases h
  | succ n ih =>
    simp only [lsB] at h
    by_cases hc : (P n && (match lsB P L n with | none => true | some b => L n b)) = true
    · rw [if_pos hc] at h
      have := Option.some.inj h; omega
    · rw [if_neg hc] at h
      have := ih h; omega
def c_lst (S : CS) (d : Nat) (key : Nat) (m : Int32) : Option Nat := lsB (fun i => decide (c_td S i / 2 ^ 20 % 8 = key) && c_had S d i m && c_cnt S d i m) (c_ltr S) (c_ct S)
theorem oI_n1 {o : Option Nat} (h : ∀ b, o = some b → b < 2 ^ 31) : oI o = -1 ↔ o = none := by
  cases o with
  | none => simp [oI]
  | some b =>
    have hb := h b rfl
    simp only [oI]
    constructor
    · intro e
      have h1 := nI_pos hb
      rw [e] at h1
      exact absurd (by decide) h1
    · intro e; cases e
section WDA
variable {p : Program} {l : Launch} {e : Env} {R : Room} {s : State} {m : MethodId} {args : Array Value} {below : List Frame} {meth : Method} {c : Code} {H : Heap} {locs : List Loc} {cells slots : Nat} {Q : State → Prop}
variable {cc : ByteArray} {pc : Nat} {ls : Array Slot} {rest : List Value} {D : va_G} {cA : Nat → ClassId} {adr : Nat → Nat} {n : Nat} {E : Nat → va_E}
theorem wn_ald (hexec : p.tables.exec = Jvm.exec) (hb : c.code = cc) (hK : va_K D kcl (kty cA) s) (hP : va_P D kcl (wl adr n E) H) (t0 : Nat) {C : String} {k0 N j : Nat} (hk0 : k0 < n) {g : Nat → Nat} (hE : E k0 = .inl (cA t0, N, .inr (.inr (.inr (.inr (fun j => some (adr (g j)))))))) (ht : (kty cA)[t0]? = some (cA t0, .object C)) (hj : j < N) (hN : N < 2 ^ 31) (hdg : decode cc pc = .ok (.aaload, 1))
    (kk : W p l e R s m args below meth c H locs cells slots Q (F0 m (pc + 1) ls (.ref (adr (g j)) :: rest))) : W p l e R s m args below meth c H locs cells slots Q (F0 m pc ls (.int (nI j) :: .ref (adr k0) :: rest)) :=
  va_aldq hexec hb hK hP k0 t0 (wl_at hk0 hE) ht (vp_in_nI hj hN) hdg (by rw [nI_clamp (by omega)]; exact kk)
end WDA
end
section
set_option maxHeartbeats 4000000 in
set_option maxRecDepth 100000 in
theorem cX3_hasRival_r {l : Launch} {D : va_G} {cA : Nat → ClassId} {adr : Nat → Nat} {n : Nat} {E : Nat → va_E} {S : CS} (hn : 30 ≤ n) (hR : Rep cA adr S E) {d : Nat} (hd : d < 3) {i : Nat} (hi : i < 120) : Met l yX3_hasRival (.code yX3_hasRival cX3_hasRival 4 (some .boolean) :: lw_G) ({ frames := 1, cells := 0, slots := 0, locals := 22 } : Room) (va_Pc [.ref (adr 0), .ref (adr (9 + 2 * d)), .int (nI i)] (wdU D (kty cA) adr n E)) (QcRead (bI (anB (fun r => c_rv S i r && c_has S d r) (c_ct S)))) 0 0 (fun _ => False) := by
  refine Met.ofW (cc := cX3_hasRival) (maxL := 4) (ret := (some .boolean)) (by decide) rfl ?_
  intro p e s m args below meth c s₁ B hml hv
  obtain ⟨rfl, hP, hN⟩ := hv
  have hx := B.exec
  have hb := B.bytes
  have hr := B.returns
  have hG : ∀ w ∈ lw_G, w.before _ s = true := fun w h => atoms_spec (ws := _ :: lw_G) B.pre w (List.mem_cons_of_mem _ h)
  have hown : s.vm.findClass RX3 = some m.cls := findClass_of_methodNamed B.named
  have hlocks := B.notSynchronized
  have hK := hN.1
  have hl := lv_entry ([.ref (adr 0), .ref (adr (9 + 2 * d)), .int (nI i)]) (n := 4) (Nat.le_of_ble_eq_true rfl)
  rw [lg_entry_eq]
  generalize (lg_sl ([.ref (adr 0), .ref (adr (9 + 2 * d)), .int (nI i)]) ++ List.replicate (4 - (lg_sl ([.ref (adr 0), .ref (adr (9 + 2 * d)), .int (nI i)])).length) Slot.unset).toArray = ls at hl ⊢
  have hl : lv_has ls 4 [(0, .ref (adr 0)), (1, .ref (adr (9 + 2 * d))), (2, .int (nI i))] := hl
  obtain ⟨hE0, hE1, hE2, hK0, hK1, hK2, hK3, hK4, ⟨hdv, hE8⟩, hDk, hTl, hct, hnm, htd, hmk, hlf⟩ := id hR
  obtain ⟨hD0, hD1⟩ := hDk d hd
  refine lv_iconst (v := 0) hx hb dX3_hasRival_0 (by decide) ?_
  refine lv_istore_n (lv' := [(3, .int 0), (0, .ref (adr 0)), (1, .ref (adr (9 + 2 * d))), (2, .int (nI i))]) hx hb dX3_hasRival_1 rfl hl (by decide) rfl (fun ls hl => ?_)
  have L2 : ∀ (f : Nat) (r : Nat), c_ct S - r < f → r ≤ c_ct S → anB (fun r => c_rv S i r && c_has S d r) r = false → ∀ ls : Array Slot, lv_has ls 4 [(3, .int (nI r)), (0, .ref (adr 0)), (1, .ref (adr (9 + 2 * d))), (2, .int (nI i))] → W p l e (headSpec (.code yX3_hasRival cX3_hasRival 4 (some .boolean) :: lw_G) ({ frames := 1, cells := 0, slots := 0, locals := 22 } : Room)).room s m [.ref (adr 0), .ref (adr (9 + 2 * d)), .int (nI i)].toArray below meth c s.heap [] 0 0 (MQ below (QcRead (bI (anB (fun r => c_rv S i r && c_has S d r) (c_ct S)))) [.ref (adr 0), .ref (adr (9 + 2 * d)), .int (nI i)].toArray s 0 0 (fun _ => False)) (F0 m 2 ls []) := by
    intro f
    induction f with
    | zero => intro r h0; exact absurd h0 (by omega)
    | succ f ih =>
      intro r hf hr2 hq ls hl
      refine lv_iload_n hx hb dX3_hasRival_2 rfl (lv_at hl 0 rfl) ?_
      refine lv_aload_n hx hb dX3_hasRival_3 rfl (lv_at hl 1 rfl) ?_
      refine va_get (D := D) (ci := 3) (v := .ref (adr 3)) (C := RX3) (T := TX3) (N := 4) hx hb hG inG_X3 hown hK hP 0 (wl_at (by omega) hE0) rfl 2 (by decide) (hG _ g_101) (fun _ h9 => h9) rfl dX3_hasRival_4 ?_
      refine va_get (D := D) (ci := 2) (v := .int (nI (c_ct S))) (C := RX2) (T := TX2) (N := 5) hx hb hG inG_X2 hown hK hP 3 (wl_at (by omega) hK0) rfl 4 (by decide) (hG _ g_41) (fun _ h9 => h9) rfl dX3_hasRival_7 ?_
      refine lv_icmp_ge (tgt := 41) hx hb dX3_hasRival_10 (by decide) (fun c10 => ?_) (fun c10 => ?_)
      · have n10 : (c_ct S) ≤ r := (nI_leI (a := (c_ct S)) (b := r) (by omega) (by omega)).mp c10
        refine lv_iconst (v := 0) hx hb dX3_hasRival_41 (by decide) ?_
        have h9 : (0 : Int32) = bI (anB (fun r => c_rv S i r && c_has S d r) (c_ct S)) := by rw [show c_ct S = r from by omega, hq]; rfl
        exact W.zret (v := 0) hx hb hr (by first | rfl | exact bI_nar _) (fun t ht _ => ⟨congrArg (fun z => Outcome.returned (some (Value.int z))) h9, ht⟩) (fun _ h => nomatch h) dX3_hasRival_42
      · have n10 : ¬ (c_ct S) ≤ r := fun h => c10 ((nI_leI (a := (c_ct S)) (b := r) (by omega) (by omega)).mpr h)
        refine lv_aload_n hx hb dX3_hasRival_13 rfl (lv_at hl 1 rfl) ?_
        refine va_get (D := D) (ci := 3) (v := .ref (adr 3)) (C := RX3) (T := TX3) (N := 4) hx hb hG inG_X3 hown hK hP 0 (wl_at (by omega) hE0) rfl 2 (by decide) (hG _ g_101) (fun _ h9 => h9) rfl dX3_hasRival_14 ?_
        refine lv_iload_n hx hb dX3_hasRival_17 rfl (lv_at hl 3 rfl) ?_
        refine lv_iload_n hx hb dX3_hasRival_18 rfl (lv_at hl 0 rfl) ?_
        refine wn_rV (rest := []) hx hb hml hown hG hN hP (cX2_areRivals_r (by omega) hct hK0 hK1 hK2 hK3 hK4 hnm htd (i := i) (j := r) (by omega) (by omega)) (cwV 2 hG (gV g_319 g_320 g_321 g_2 g_322) rfl rfl rfl (by decide +kernel) ⟨Nat.le_of_ble_eq_true rfl, Nat.le_of_ble_eq_true rfl⟩) (by omega) hK0 rfl rfl hl.1 rfl (Nat.le_of_ble_eq_true rfl) dX3_hasRival_19 ⟨Nat.zero_le _, Nat.zero_le _⟩ ?_
        refine lv_if_eq (tgt := 35) hx hb dX3_hasRival_22 (by decide) (fun c22 => ?_) (fun c22 => ?_)
        · have n22 : (c_rv S i r) = false := bI_0.mp c22
          refine lv_iinc (v := nI (r + 1)) (lv' := [(3, .int (nI (r + 1))), (0, .ref (adr 0)), (1, .ref (adr (9 + 2 * d))), (2, .int (nI i))]) hx hb dX3_hasRival_35 hl (k := 0) rfl (nI_1 _) (by decide) rfl (fun ls hl => ?_)
          refine lv_goto (tgt := 2) hx hb dX3_hasRival_38 (by decide) ?_
          exact ih (r + 1) (by omega) (by omega) (by simp only [anB, hq, Bool.false_or]; first | rw [n22, Bool.false_and] | rw [n30, Bool.and_false]) ls (lv_sub hl [0, 1, 2, 3] rfl)
        · have n22 : (c_rv S i r) = true := bI_1.mp c22
          refine lv_aload_n hx hb dX3_hasRival_25 rfl (lv_at hl 2 rfl) ?_
          refine lv_iload_n hx hb dX3_hasRival_26 rfl (lv_at hl 0 rfl) ?_
          refine wn_rV (rest := []) hx hb hml hown hG hN hP (cX0_has_r (by omega) hD0 hD1 (j := r) (by omega)) (cwV 1 hG (gV g_307 g_308 g_309 g_4 g_310) rfl rfl rfl (by decide +kernel) ⟨Nat.le_of_ble_eq_true rfl, Nat.le_of_ble_eq_true rfl⟩) (by omega) hD0 rfl rfl hl.1 rfl (Nat.le_of_ble_eq_true rfl) dX3_hasRival_27 ⟨Nat.zero_le _, Nat.zero_le _⟩ ?_
          refine lv_if_eq (tgt := 35) hx hb dX3_hasRival_30 (by decide) (fun c30 => ?_) (fun c30 => ?_)
          · have n30 : (c_has S d r) = false := bI_0.mp c30
            refine lv_iinc (v := nI (r + 1)) (lv' := [(3, .int (nI (r + 1))), (0, .ref (adr 0)), (1, .ref (adr (9 + 2 * d))), (2, .int (nI i))]) hx hb dX3_hasRival_35 hl (k := 0) rfl (nI_1 _) (by decide) rfl (fun ls hl => ?_)
            refine lv_goto (tgt := 2) hx hb dX3_hasRival_38 (by decide) ?_
            exact ih (r + 1) (by omega) (by omega) (by simp only [anB, hq, Bool.false_or]; first | rw [n22, Bool.false_and] | rw [n30, Bool.and_false]) ls (lv_sub hl [0, 1, 2, 3] rfl)
          · have n30 : (c_has S d r) = true := bI_1.mp c30
            refine lv_iconst (v := 1) hx hb dX3_hasRival_33 (by decide) ?_
            have h9 : (1 : Int32) = bI (anB (fun r => c_rv S i r && c_has S d r) (c_ct S)) := by rw [anB_hit (P := fun r => c_rv S i r && c_has S d r) (i := r) (by simp only [n22, n30]; rfl) (by omega)]; rfl
            exact W.zret (v := 1) hx hb hr (by first | rfl | exact bI_nar _) (fun t ht _ => ⟨congrArg (fun z => Outcome.returned (some (Value.int z))) h9, ht⟩) (fun _ h => nomatch h) dX3_hasRival_34
  exact L2 (c_ct S + 1) 0 (by omega) (by omega) rfl ls (lv_sub hl [0, 1, 2, 3] rfl)

set_option maxHeartbeats 4000000 in
set_option maxRecDepth 100000 in
theorem cX3_realTimeOf_r {l : Launch} {D : va_G} {cA : Nat → ClassId} {adr : Nat → Nat} {n : Nat} {E : Nat → va_E} {S : CS} (hn : 30 ≤ n) (hR : Rep cA adr S E) {i : Nat} (hi : i < 120) : Met l yX3_realTimeOf (.code yX3_realTimeOf cX3_realTimeOf 3 (some .int) :: lw_G) ({ frames := 2, cells := 0, slots := 0, locals := 48 } : Room) (va_Pc [.ref (adr 0), .int (nI i)] (wdU D (kty cA) adr n E)) (QcRead (c_rt S i)) 0 0 (fun _ => False) := by
  refine Met.ofW (cc := cX3_realTimeOf) (maxL := 3) (ret := (some .int)) (by decide) rfl ?_
  intro p e s m args below meth c s₁ B hml hv
  obtain ⟨rfl, hP, hN⟩ := hv
  have hx := B.exec
  have hb := B.bytes
  have hr := B.returns
  have hG : ∀ w ∈ lw_G, w.before _ s = true := fun w h => atoms_spec (ws := _ :: lw_G) B.pre w (List.mem_cons_of_mem _ h)
  have hown : s.vm.findClass RX3 = some m.cls := findClass_of_methodNamed B.named
  have hlocks := B.notSynchronized
  have hK := hN.1
  have hl := lv_entry ([.ref (adr 0), .int (nI i)]) (n := 3) (Nat.le_of_ble_eq_true rfl)
  rw [lg_entry_eq]
  generalize (lg_sl ([.ref (adr 0), .int (nI i)]) ++ List.replicate (3 - (lg_sl ([.ref (adr 0), .int (nI i)])).length) Slot.unset).toArray = ls at hl ⊢
  have hl : lv_has ls 3 [(0, .ref (adr 0)), (1, .int (nI i))] := hl
  obtain ⟨hE0, hE1, hE2, hK0, hK1, hK2, hK3, hK4, ⟨hdv, hE8⟩, hDk, hTl, hct, hnm, htd, hmk, hlf⟩ := id hR
  have b1 := hnm i
  have b2 := htd i
  have b3 : c_nm S i / 512 < 5 := by omega
  obtain ⟨hT0, hT1, hT2⟩ := hTl _ b3
  refine lv_aload_n hx hb dX3_realTimeOf_0 rfl (lv_at hl 0 rfl) ?_
  refine va_get (D := D) (ci := 3) (v := .ref (adr 3)) (C := RX3) (T := TX3) (N := 4) hx hb hG inG_X3 hown hK hP 0 (wl_at (by omega) hE0) rfl 2 (by decide) (hG _ g_101) (fun _ h9 => h9) rfl dX3_realTimeOf_1 ?_
  refine lv_iload_n hx hb dX3_realTimeOf_4 rfl (lv_at hl 1 rfl) ?_
  refine wn_rV (rest := []) hx hb hml hown hG hN hP (cX2_teller_r (by omega) hct hK0 hK1 hK2 hK3 hK4 hnm htd (i := i) (by omega)) (cwV 1 hG (gV g_432 g_433 g_434 g_2 g_435) rfl rfl rfl (by decide +kernel) ⟨Nat.le_of_ble_eq_true rfl, Nat.le_of_ble_eq_true rfl⟩) (by omega) hK0 rfl rfl hl.1 rfl (Nat.le_of_ble_eq_true rfl) dX3_realTimeOf_5 ⟨Nat.zero_le _, Nat.zero_le _⟩ ?_
  refine lv_istore_n (lv' := [(2, .int (nI (c_nm S i / 512))), (0, .ref (adr 0)), (1, .int (nI i))]) hx hb dX3_realTimeOf_8 rfl hl (by decide) rfl (fun ls hl => ?_)
  refine lv_iload_n hx hb dX3_realTimeOf_9 rfl (lv_at hl 0 rfl) ?_
  refine lv_iconst (v := 5) hx hb dX3_realTimeOf_10 (by decide) ?_
  refine lv_icmp_ge (tgt := 38) hx hb dX3_realTimeOf_11 (by decide) (fun c11 => ?_) (fun c11 => ?_)
  · have n11 : 5 ≤ (c_nm S i / 512) := (nI_leI (a := 5) (b := (c_nm S i / 512)) (by omega) (by omega)).mp c11
    exact absurd n11 (by omega)
  · have n11 : ¬ 5 ≤ (c_nm S i / 512) := fun h => c11 ((nI_leI (a := 5) (b := (c_nm S i / 512)) (by omega) (by omega)).mpr h)
    refine lv_aload_n hx hb dX3_realTimeOf_14 rfl (lv_at hl 1 rfl) ?_
    refine va_get (D := D) (ci := 3) (v := .ref (adr 1)) (C := RX3) (T := TX3) (N := 4) hx hb hG inG_X3 hown hK hP 0 (wl_at (by omega) hE0) rfl 0 (by decide) (hG _ g_99) (fun _ h9 => h9) rfl dX3_realTimeOf_15 ?_
    refine lv_iload_n hx hb dX3_realTimeOf_18 rfl (lv_at hl 0 rfl) ?_
    refine wn_ald (j := (c_nm S i / 512)) (g := fun j => 15 + 3 * j) hx hb hK hP 2 (by omega) hE1 rfl (by omega) (by decide) dX3_realTimeOf_19 ?_
    refine lv_aload_n hx hb dX3_realTimeOf_20 rfl (lv_at hl 1 rfl) ?_
    refine va_get (D := D) (ci := 3) (v := .ref (adr 3)) (C := RX3) (T := TX3) (N := 4) hx hb hG inG_X3 hown hK hP 0 (wl_at (by omega) hE0) rfl 2 (by decide) (hG _ g_101) (fun _ h9 => h9) rfl dX3_realTimeOf_21 ?_
    refine va_get (D := D) (ci := 2) (v := .ref (adr (3 + 2))) (C := RX2) (T := TX2) (N := 5) hx hb hG inG_X2 hown hK hP 3 (wl_at (by omega) hK0) rfl 1 (by decide) (hG _ g_35) (fun _ h9 => h9) rfl dX3_realTimeOf_24 ?_
    refine lv_iload_n hx hb dX3_realTimeOf_27 rfl (lv_at hl 2 rfl) ?_
    refine wn_iald (j := i) hx hb hK hP (by omega) hK2 (by omega) (by decide) dX3_realTimeOf_28 ?_
    refine wn_rS (rest := [.ref (adr (15 + 3 * (c_nm S i / 512)))]) hx hb hml hown hG (cX3_timeIn_r _) (cwS 1 hG (gS g_274 g_275 g_1 g_276) rfl rfl rfl (by decide +kernel) ⟨Nat.le_of_ble_eq_true rfl, Nat.le_of_ble_eq_true rfl⟩) rfl hl.1 rfl (Nat.le_of_ble_eq_true rfl) dX3_realTimeOf_29 ⟨Nat.zero_le _, Nat.zero_le _⟩ ?_
    refine lv_topi (fun y9 e9 => ?_)
    have e9 : y9 = nI (c_td S i % 2 ^ 20) := e9.trans (pk_andN (by omega) 20 (by decide))
    subst e9
    refine wn_rV (rest := []) hx hb hml hown hG hN hP (cX1_realTime_r (by omega) (hmk _ b3) hT0 hT1 hT2 _) (cwV 1 hG (gV g_246 g_247 g_248 g_3 g_249) rfl rfl rfl (by decide +kernel) ⟨Nat.le_of_ble_eq_true rfl, Nat.le_of_ble_eq_true rfl⟩) (by omega) hT0 rfl rfl hl.1 rfl (Nat.le_of_ble_eq_true rfl) dX3_realTimeOf_32 ⟨Nat.zero_le _, Nat.zero_le _⟩ ?_
    refine lv_goto (tgt := 39) hx hb dX3_realTimeOf_35 (by decide) ?_
    have h9 : (rt (c_mk S (c_nm S i / 512)) (c_ow S (c_nm S i / 512)) (c_re S (c_nm S i / 512)) (nI (c_td S i % 2 ^ 20)) : Int32) = c_rt S i := rfl
    exact W.iret (v := rt (c_mk S (c_nm S i / 512)) (c_ow S (c_nm S i / 512)) (c_re S (c_nm S i / 512)) (nI (c_td S i % 2 ^ 20))) hx hb hr (fun t ht _ => ⟨congrArg (fun z => Outcome.returned (some (Value.int z))) h9, ht⟩) (fun _ h => nomatch h) dX3_realTimeOf_39

set_option maxHeartbeats 4000000 in
set_option maxRecDepth 100000 in
theorem cX3_isLater_r {l : Launch} {D : va_G} {cA : Nat → ClassId} {adr : Nat → Nat} {n : Nat} {E : Nat → va_E} {S : CS} (hn : 30 ≤ n) (hR : Rep cA adr S E) {i j : Nat} (hi : i < 120) (hj : j < 120) : Met l yX3_isLater (.code yX3_isLater cX3_isLater 5 (some .boolean) :: lw_G) ({ frames := 3, cells := 0, slots := 0, locals := 70 } : Room) (va_Pc [.ref (adr 0), .int (nI i), .int (nI j)] (wdU D (kty cA) adr n E)) (QcRead (bI (c_ltr S i j))) 0 0 (fun _ => False) := by
  refine Met.ofW (cc := cX3_isLater) (maxL := 5) (ret := (some .boolean)) (by decide) rfl ?_
  intro p e s m args below meth c s₁ B hml hv
  obtain ⟨rfl, hP, hN⟩ := hv
  have hx := B.exec
  have hb := B.bytes
  have hr := B.returns
  have hG : ∀ w ∈ lw_G, w.before _ s = true := fun w h => atoms_spec (ws := _ :: lw_G) B.pre w (List.mem_cons_of_mem _ h)
  have hown : s.vm.findClass RX3 = some m.cls := findClass_of_methodNamed B.named
  have hlocks := B.notSynchronized
  have hK := hN.1
  have hl := lv_entry ([.ref (adr 0), .int (nI i), .int (nI j)]) (n := 5) (Nat.le_of_ble_eq_true rfl)
  rw [lg_entry_eq]
  generalize (lg_sl ([.ref (adr 0), .int (nI i), .int (nI j)]) ++ List.replicate (5 - (lg_sl ([.ref (adr 0), .int (nI i), .int (nI j)])).length) Slot.unset).toArray = ls at hl ⊢
  have hl : lv_has ls 5 [(0, .ref (adr 0)), (1, .int (nI i)), (2, .int (nI j))] := hl
  obtain ⟨hE0, hE1, hE2, hK0, hK1, hK2, hK3, hK4, ⟨hdv, hE8⟩, hDk, hTl, hct, hnm, htd, hmk, hlf⟩ := id hR
  have b1 := hnm i
  have b2 := hnm j
  have b3 : c_rk S i < 2 ^ 31 := by unfold c_rk; omega
  have b4 : c_rk S j < 2 ^ 31 := by unfold c_rk; omega
  refine lv_aload_n hx hb dX3_isLater_0 rfl (lv_at hl 0 rfl) ?_
  refine lv_iload_n hx hb dX3_isLater_1 rfl (lv_at hl 1 rfl) ?_
  refine wn_rV (rest := []) hx hb hml hown hG hN hP (cX3_realTimeOf_r hn hR (i := i) (by omega)) (cwV 1 hG (gV g_428 g_430 gp_X3_realTimeOf g_1 g_431) rfl rfl rfl (by decide +kernel) ⟨Nat.le_of_ble_eq_true rfl, Nat.le_of_ble_eq_true rfl⟩) (by omega) hE0 rfl rfl hl.1 rfl (Nat.le_of_ble_eq_true rfl) dX3_isLater_2 ⟨Nat.zero_le _, Nat.zero_le _⟩ ?_
  refine lv_istore_n (lv' := [(3, .int (c_rt S i)), (0, .ref (adr 0)), (1, .int (nI i)), (2, .int (nI j))]) hx hb dX3_isLater_5 rfl hl (by decide) rfl (fun ls hl => ?_)
  refine lv_aload_n hx hb dX3_isLater_6 rfl (lv_at hl 1 rfl) ?_
  refine lv_iload_n hx hb dX3_isLater_7 rfl (lv_at hl 3 rfl) ?_
  refine wn_rV (rest := []) hx hb hml hown hG hN hP (cX3_realTimeOf_r hn hR (i := j) (by omega)) (cwV 1 hG (gV g_428 g_430 gp_X3_realTimeOf g_1 g_431) rfl rfl rfl (by decide +kernel) ⟨Nat.le_of_ble_eq_true rfl, Nat.le_of_ble_eq_true rfl⟩) (by omega) hE0 rfl rfl hl.1 rfl (Nat.le_of_ble_eq_true rfl) dX3_isLater_8 ⟨Nat.zero_le _, Nat.zero_le _⟩ ?_
  refine lv_istore (lv' := [(4, .int (c_rt S j)), (3, .int (c_rt S i)), (0, .ref (adr 0)), (1, .int (nI i)), (2, .int (nI j))]) hx hb dX3_isLater_11 hl (by decide) rfl (fun ls hl => ?_)
  refine lv_iload_n hx hb dX3_isLater_13 rfl (lv_at hl 1 rfl) ?_
  refine lv_iload hx hb dX3_isLater_14 (lv_at hl 0 rfl) ?_
  refine lv_icmp_eq (tgt := 33) hx hb dX3_isLater_16 (by decide) (fun c16 => ?_) (fun c16 => ?_)
  · refine lv_aload_n hx hb dX3_isLater_33 rfl (lv_at hl 2 rfl) ?_
    refine va_get (D := D) (ci := 3) (v := .ref (adr 3)) (C := RX3) (T := TX3) (N := 4) hx hb hG inG_X3 hown hK hP 0 (wl_at (by omega) hE0) rfl 2 (by decide) (hG _ g_101) (fun _ h9 => h9) rfl dX3_isLater_34 ?_
    refine lv_iload_n hx hb dX3_isLater_37 rfl (lv_at hl 3 rfl) ?_
    refine wn_rV (rest := []) hx hb hml hown hG hN hP (cX2_rank_r (by omega) hct hK0 hK1 hK2 hK3 hK4 hnm htd (i := i) (by omega)) (cwV 1 hG (gV g_436 g_437 g_438 g_2 g_439) rfl rfl rfl (by decide +kernel) ⟨Nat.le_of_ble_eq_true rfl, Nat.le_of_ble_eq_true rfl⟩) (by omega) hK0 rfl rfl hl.1 rfl (Nat.le_of_ble_eq_true rfl) dX3_isLater_38 ⟨Nat.zero_le _, Nat.zero_le _⟩ ?_
    refine lv_aload_n hx hb dX3_isLater_41 rfl (lv_at hl 2 rfl) ?_
    refine va_get (D := D) (ci := 3) (v := .ref (adr 3)) (C := RX3) (T := TX3) (N := 4) hx hb hG inG_X3 hown hK hP 0 (wl_at (by omega) hE0) rfl 2 (by decide) (hG _ g_101) (fun _ h9 => h9) rfl dX3_isLater_42 ?_
    refine lv_iload_n hx hb dX3_isLater_45 rfl (lv_at hl 4 rfl) ?_
    refine wn_rV (rest := [.int (nI (c_rk S i))]) hx hb hml hown hG hN hP (cX2_rank_r (by omega) hct hK0 hK1 hK2 hK3 hK4 hnm htd (i := j) (by omega)) (cwV 1 hG (gV g_436 g_437 g_438 g_2 g_439) rfl rfl rfl (by decide +kernel) ⟨Nat.le_of_ble_eq_true rfl, Nat.le_of_ble_eq_true rfl⟩) (by omega) hK0 rfl rfl hl.1 rfl (Nat.le_of_ble_eq_true rfl) dX3_isLater_46 ⟨Nat.zero_le _, Nat.zero_le _⟩ ?_
    refine lv_icmp_le (tgt := 56) hx hb dX3_isLater_49 (by decide) (fun c49 => ?_) (fun c49 => ?_)
    · have n49 : (c_rk S i) ≤ (c_rk S j) := (nI_leI (a := (c_rk S i)) (b := (c_rk S j)) (by omega) (by omega)).mp c49
      refine lv_iconst (v := 0) hx hb dX3_isLater_56 (by decide) ?_
      have h9 : (0 : Int32) = bI (c_ltr S i j) := by unfold c_ltr; first | (rw [if_neg c16, show decide (c_rt S j < c_rt S i) = false from by simpa using c22]; rfl) | (rw [if_pos c16, show decide (c_rk S j < c_rk S i) = false from by simpa using n49]; rfl)
      exact W.zret (v := 0) hx hb hr (by first | rfl | exact bI_nar _) (fun t ht _ => ⟨congrArg (fun z => Outcome.returned (some (Value.int z))) h9, ht⟩) (fun _ h => nomatch h) dX3_isLater_57
    · have n49 : ¬ (c_rk S i) ≤ (c_rk S j) := fun h => c49 ((nI_leI (a := (c_rk S i)) (b := (c_rk S j)) (by omega) (by omega)).mpr h)
      refine lv_iconst (v := 1) hx hb dX3_isLater_52 (by decide) ?_
      refine lv_goto (tgt := 57) hx hb dX3_isLater_53 (by decide) ?_
      have h9 : (1 : Int32) = bI (c_ltr S i j) := by unfold c_ltr; first | (rw [if_neg c16, show decide (c_rt S j < c_rt S i) = true from by simpa using c22]; rfl) | (rw [if_pos c16, show decide (c_rk S j < c_rk S i) = true from by simpa using n49]; rfl)
      exact W.zret (v := 1) hx hb hr (by first | rfl | exact bI_nar _) (fun t ht _ => ⟨congrArg (fun z => Outcome.returned (some (Value.int z))) h9, ht⟩) (fun _ h => nomatch h) dX3_isLater_57
  · refine lv_iload_n hx hb dX3_isLater_19 rfl (lv_at hl 1 rfl) ?_
    refine lv_iload hx hb dX3_isLater_20 (lv_at hl 0 rfl) ?_
    refine lv_icmp_le (tgt := 29) hx hb dX3_isLater_22 (by decide) (fun c22 => ?_) (fun c22 => ?_)
    · refine lv_iconst (v := 0) hx hb dX3_isLater_29 (by decide) ?_
      refine lv_goto (tgt := 57) hx hb dX3_isLater_30 (by decide) ?_
      have h9 : (0 : Int32) = bI (c_ltr S i j) := by unfold c_ltr; first | (rw [if_neg c16, show decide (c_rt S j < c_rt S i) = false from by simpa using c22]; rfl) | (rw [if_pos c16, show decide (c_rk S j < c_rk S i) = false from by simpa using n49]; rfl)
      exact W.zret (v := 0) hx hb hr (by first | rfl | exact bI_nar _) (fun t ht _ => ⟨congrArg (fun z => Outcome.returned (some (Value.int z))) h9, ht⟩) (fun _ h => nomatch h) dX3_isLater_57
    · refine lv_iconst (v := 1) hx hb dX3_isLater_25 (by decide) ?_
      refine lv_goto (tgt := 57) hx hb dX3_isLater_26 (by decide) ?_
      have h9 : (1 : Int32) = bI (c_ltr S i j) := by unfold c_ltr; first | (rw [if_neg c16, show decide (c_rt S j < c_rt S i) = true from by simpa using c22]; rfl) | (rw [if_pos c16, show decide (c_rk S j < c_rk S i) = true from by simpa using n49]; rfl)
      exact W.zret (v := 1) hx hb hr (by first | rfl | exact bI_nar _) (fun t ht _ => ⟨congrArg (fun z => Outcome.returned (some (Value.int z))) h9, ht⟩) (fun _ h => nomatch h) dX3_isLater_57

set_option maxHeartbeats 4000000 in
set_option maxRecDepth 100000 in
theorem cX3_countsBy_r {l : Launch} {D : va_G} {cA : Nat → ClassId} {adr : Nat → Nat} {n : Nat} {E : Nat → va_E} {S : CS} (hn : 30 ≤ n) (hR : Rep cA adr S E) {d : Nat} (hd : d < 3) {i : Nat} (hi : i < 120) (mm : Int32) : Met l yX3_countsBy (.code yX3_countsBy cX3_countsBy 5 (some .boolean) :: lw_G) ({ frames := 1, cells := 0, slots := 0, locals := 22 } : Room) (va_Pc [.ref (adr 0), .ref (adr (9 + 2 * d)), .int (nI i), .int mm] (wdU D (kty cA) adr n E)) (QcRead (bI (c_cnt S d i mm))) 0 0 (fun _ => False) := by
  refine Met.ofW (cc := cX3_countsBy) (maxL := 5) (ret := (some .boolean)) (by decide) rfl ?_
  intro p e s m args below meth c s₁ B hml hv
  obtain ⟨rfl, hP, hN⟩ := hv
  have hx := B.exec
  have hb := B.bytes
  have hr := B.returns
  have hG : ∀ w ∈ lw_G, w.before _ s = true := fun w h => atoms_spec (ws := _ :: lw_G) B.pre w (List.mem_cons_of_mem _ h)
  have hown : s.vm.findClass RX3 = some m.cls := findClass_of_methodNamed B.named
  have hlocks := B.notSynchronized
  have hK := hN.1
  have hl := lv_entry ([.ref (adr 0), .ref (adr (9 + 2 * d)), .int (nI i), .int mm]) (n := 5) (Nat.le_of_ble_eq_true rfl)
  rw [lg_entry_eq]
  generalize (lg_sl ([.ref (adr 0), .ref (adr (9 + 2 * d)), .int (nI i), .int mm]) ++ List.replicate (5 - (lg_sl ([.ref (adr 0), .ref (adr (9 + 2 * d)), .int (nI i), .int mm])).length) Slot.unset).toArray = ls at hl ⊢
  have hl : lv_has ls 5 [(0, .ref (adr 0)), (1, .ref (adr (9 + 2 * d))), (2, .int (nI i)), (3, .int mm)] := hl
  obtain ⟨hE0, hE1, hE2, hK0, hK1, hK2, hK3, hK4, ⟨hdv, hE8⟩, hDk, hTl, hct, hnm, htd, hmk, hlf⟩ := id hR
  obtain ⟨hD0, hD1⟩ := hDk d hd
  refine lv_aload_n hx hb dX3_countsBy_0 rfl (lv_at hl 0 rfl) ?_
  refine va_get (D := D) (ci := 3) (v := .ref (adr 3)) (C := RX3) (T := TX3) (N := 4) hx hb hG inG_X3 hown hK hP 0 (wl_at (by omega) hE0) rfl 2 (by decide) (hG _ g_101) (fun _ h9 => h9) rfl dX3_countsBy_1 ?_
  refine va_get (D := D) (ci := 2) (v := .ref (adr (3 + 4))) (C := RX2) (T := TX2) (N := 5) hx hb hG inG_X2 hown hK hP 3 (wl_at (by omega) hK0) rfl 3 (by decide) (hG _ g_39) (fun _ h9 => h9) rfl dX3_countsBy_4 ?_
  refine lv_iload_n hx hb dX3_countsBy_7 rfl (lv_at hl 2 rfl) ?_
  refine wn_zald (j := i) hx hb hK hP (by omega) hK4 (by omega) (by decide) dX3_countsBy_8 ?_
  refine lv_if_eq (tgt := 14) hx hb dX3_countsBy_9 (by decide) (fun c9 => ?_) (fun c9 => ?_)
  · have n9 : (c_sd S i) = false := bI_0.mp c9
    refine lv_iconst (v := 0) hx hb dX3_countsBy_14 (by decide) ?_
    refine lv_istore (lv' := [(4, .int 0), (0, .ref (adr 0)), (1, .ref (adr (9 + 2 * d))), (2, .int (nI i)), (3, .int mm)]) hx hb dX3_countsBy_15 hl (by decide) rfl (fun ls hl => ?_)
    have L17 : ∀ (f : Nat) (r : Nat), c_ct S - r < f → r ≤ c_ct S → anB (fun r => c_rv S i r && (c_sd S r || c_had S d r mm)) r = false → ∀ ls : Array Slot, lv_has ls 5 [(4, .int (nI r)), (0, .ref (adr 0)), (1, .ref (adr (9 + 2 * d))), (2, .int (nI i)), (3, .int mm)] → W p l e (headSpec (.code yX3_countsBy cX3_countsBy 5 (some .boolean) :: lw_G) ({ frames := 1, cells := 0, slots := 0, locals := 22 } : Room)).room s m [.ref (adr 0), .ref (adr (9 + 2 * d)), .int (nI i), .int mm].toArray below meth c s.heap [] 0 0 (MQ below (QcRead (bI (c_cnt S d i mm))) [.ref (adr 0), .ref (adr (9 + 2 * d)), .int (nI i), .int mm].toArray s 0 0 (fun _ => False)) (F0 m 17 ls []) := by
      intro f
      induction f with
      | zero => intro r h0; exact absurd h0 (by omega)
      | succ f ih =>
        intro r hf hr2 hq ls hl
        refine lv_iload hx hb dX3_countsBy_17 (lv_at hl 0 rfl) ?_
        refine lv_aload_n hx hb dX3_countsBy_19 rfl (lv_at hl 1 rfl) ?_
        refine va_get (D := D) (ci := 3) (v := .ref (adr 3)) (C := RX3) (T := TX3) (N := 4) hx hb hG inG_X3 hown hK hP 0 (wl_at (by omega) hE0) rfl 2 (by decide) (hG _ g_101) (fun _ h9 => h9) rfl dX3_countsBy_20 ?_
        refine va_get (D := D) (ci := 2) (v := .int (nI (c_ct S))) (C := RX2) (T := TX2) (N := 5) hx hb hG inG_X2 hown hK hP 3 (wl_at (by omega) hK0) rfl 4 (by decide) (hG _ g_41) (fun _ h9 => h9) rfl dX3_countsBy_23 ?_
        refine lv_icmp_ge (tgt := 73) hx hb dX3_countsBy_26 (by decide) (fun c26 => ?_) (fun c26 => ?_)
        · have n26 : (c_ct S) ≤ r := (nI_leI (a := (c_ct S)) (b := r) (by omega) (by omega)).mp c26
          refine lv_iconst (v := 1) hx hb dX3_countsBy_73 (by decide) ?_
          have h9 : (1 : Int32) = bI (c_cnt S d i mm) := by unfold c_cnt; rw [n9, show c_ct S = r from by omega, hq]; rfl
          exact W.zret (v := 1) hx hb hr (by first | rfl | exact bI_nar _) (fun t ht _ => ⟨congrArg (fun z => Outcome.returned (some (Value.int z))) h9, ht⟩) (fun _ h => nomatch h) dX3_countsBy_74
        · have n26 : ¬ (c_ct S) ≤ r := fun h => c26 ((nI_leI (a := (c_ct S)) (b := r) (by omega) (by omega)).mpr h)
          refine lv_aload_n hx hb dX3_countsBy_29 rfl (lv_at hl 1 rfl) ?_
          refine va_get (D := D) (ci := 3) (v := .ref (adr 3)) (C := RX3) (T := TX3) (N := 4) hx hb hG inG_X3 hown hK hP 0 (wl_at (by omega) hE0) rfl 2 (by decide) (hG _ g_101) (fun _ h9 => h9) rfl dX3_countsBy_30 ?_
          refine lv_iload_n hx hb dX3_countsBy_33 rfl (lv_at hl 3 rfl) ?_
          refine lv_iload hx hb dX3_countsBy_34 (lv_at hl 0 rfl) ?_
          refine wn_rV (rest := []) hx hb hml hown hG hN hP (cX2_areRivals_r (by omega) hct hK0 hK1 hK2 hK3 hK4 hnm htd (i := i) (j := r) (by omega) (by omega)) (cwV 2 hG (gV g_319 g_320 g_321 g_2 g_322) rfl rfl rfl (by decide +kernel) ⟨Nat.le_of_ble_eq_true rfl, Nat.le_of_ble_eq_true rfl⟩) (by omega) hK0 rfl rfl hl.1 rfl (Nat.le_of_ble_eq_true rfl) dX3_countsBy_36 ⟨Nat.zero_le _, Nat.zero_le _⟩ ?_
          refine lv_if_eq (tgt := 67) hx hb dX3_countsBy_39 (by decide) (fun c39 => ?_) (fun c39 => ?_)
          · have n39 : (c_rv S i r) = false := bI_0.mp c39
            refine lv_iinc (v := nI (r + 1)) (lv' := [(4, .int (nI (r + 1))), (0, .ref (adr 0)), (1, .ref (adr (9 + 2 * d))), (2, .int (nI i)), (3, .int mm)]) hx hb dX3_countsBy_67 hl (k := 0) rfl (nI_1 _) (by decide) rfl (fun ls hl => ?_)
            refine lv_goto (tgt := 17) hx hb dX3_countsBy_70 (by decide) ?_
            exact ih (r + 1) (by omega) (by omega) (by simp only [anB, hq, Bool.false_or]; first | rw [n39, Bool.false_and] | rw [n52, n62, Bool.or_false, Bool.and_false]) ls (lv_sub hl [0, 1, 2, 3, 4] rfl)
          · have n39 : (c_rv S i r) = true := bI_1.mp c39
            refine lv_aload_n hx hb dX3_countsBy_42 rfl (lv_at hl 1 rfl) ?_
            refine va_get (D := D) (ci := 3) (v := .ref (adr 3)) (C := RX3) (T := TX3) (N := 4) hx hb hG inG_X3 hown hK hP 0 (wl_at (by omega) hE0) rfl 2 (by decide) (hG _ g_101) (fun _ h9 => h9) rfl dX3_countsBy_43 ?_
            refine va_get (D := D) (ci := 2) (v := .ref (adr (3 + 4))) (C := RX2) (T := TX2) (N := 5) hx hb hG inG_X2 hown hK hP 3 (wl_at (by omega) hK0) rfl 3 (by decide) (hG _ g_39) (fun _ h9 => h9) rfl dX3_countsBy_46 ?_
            refine lv_iload hx hb dX3_countsBy_49 (lv_at hl 0 rfl) ?_
            refine wn_zald (j := r) hx hb hK hP (by omega) hK4 (by omega) (by decide) dX3_countsBy_51 ?_
            refine lv_if_ne (tgt := 65) hx hb dX3_countsBy_52 (by decide) (fun c52 => ?_) (fun c52 => ?_)
            · have n52 : (c_sd S r) = true := bI_1.mp c52
              refine lv_iconst (v := 0) hx hb dX3_countsBy_65 (by decide) ?_
              have h9 : (0 : Int32) = bI (c_cnt S d i mm) := by unfold c_cnt; rw [n9, anB_hit (P := fun r => c_rv S i r && (c_sd S r || c_had S d r mm)) (i := r) (by simp only [n39, Bool.true_and]; first | (rw [n52]; rfl) | (rw [n62, Bool.or_true])) (by omega)]; rfl
              exact W.zret (v := 0) hx hb hr (by first | rfl | exact bI_nar _) (fun t ht _ => ⟨congrArg (fun z => Outcome.returned (some (Value.int z))) h9, ht⟩) (fun _ h => nomatch h) dX3_countsBy_66
            · have n52 : (c_sd S r) = false := bI_0.mp c52
              refine lv_aload_n hx hb dX3_countsBy_55 rfl (lv_at hl 2 rfl) ?_
              refine lv_iload hx hb dX3_countsBy_56 (lv_at hl 0 rfl) ?_
              refine lv_iload_n hx hb dX3_countsBy_58 rfl (lv_at hl 4 rfl) ?_
              refine wn_rV (rest := []) hx hb hml hown hG hN hP (cX0_hadSeen_r (by omega) hD0 hD1 (j := r) (by omega) mm) (cwV 2 hG (gV g_420 g_421 g_422 g_4 g_423) rfl rfl rfl (by decide +kernel) ⟨Nat.le_of_ble_eq_true rfl, Nat.le_of_ble_eq_true rfl⟩) (by omega) hD0 rfl rfl hl.1 rfl (Nat.le_of_ble_eq_true rfl) dX3_countsBy_59 ⟨Nat.zero_le _, Nat.zero_le _⟩ ?_
              refine lv_if_eq (tgt := 67) hx hb dX3_countsBy_62 (by decide) (fun c62 => ?_) (fun c62 => ?_)
              · have n62 : (c_had S d r mm) = false := bI_0.mp c62
                refine lv_iinc (v := nI (r + 1)) (lv' := [(4, .int (nI (r + 1))), (0, .ref (adr 0)), (1, .ref (adr (9 + 2 * d))), (2, .int (nI i)), (3, .int mm)]) hx hb dX3_countsBy_67 hl (k := 0) rfl (nI_1 _) (by decide) rfl (fun ls hl => ?_)
                refine lv_goto (tgt := 17) hx hb dX3_countsBy_70 (by decide) ?_
                exact ih (r + 1) (by omega) (by omega) (by simp only [anB, hq, Bool.false_or]; first | rw [n39, Bool.false_and] | rw [n52, n62, Bool.or_false, Bool.and_false]) ls (lv_sub hl [0, 1, 2, 3, 4] rfl)
              · have n62 : (c_had S d r mm) = true := bI_1.mp c62
                refine lv_iconst (v := 0) hx hb dX3_countsBy_65 (by decide) ?_
                have h9 : (0 : Int32) = bI (c_cnt S d i mm) := by unfold c_cnt; rw [n9, anB_hit (P := fun r => c_rv S i r && (c_sd S r || c_had S d r mm)) (i := r) (by simp only [n39, Bool.true_and]; first | (rw [n52]; rfl) | (rw [n62, Bool.or_true])) (by omega)]; rfl
                exact W.zret (v := 0) hx hb hr (by first | rfl | exact bI_nar _) (fun t ht _ => ⟨congrArg (fun z => Outcome.returned (some (Value.int z))) h9, ht⟩) (fun _ h => nomatch h) dX3_countsBy_66
    exact L17 (c_ct S + 1) 0 (by omega) (by omega) rfl ls (lv_sub hl [0, 1, 2, 3, 4] rfl)
  · have n9 : (c_sd S i) = true := bI_1.mp c9
    refine lv_iconst (v := 1) hx hb dX3_countsBy_12 (by decide) ?_
    have h9 : (1 : Int32) = bI (c_cnt S d i mm) := by unfold c_cnt; rw [n9]; rfl
    exact W.zret (v := 1) hx hb hr (by first | rfl | exact bI_nar _) (fun t ht _ => ⟨congrArg (fun z => Outcome.returned (some (Value.int z))) h9, ht⟩) (fun _ h => nomatch h) dX3_countsBy_13

set_option maxHeartbeats 4000000 in
set_option maxRecDepth 100000 in
theorem cX3_beginsConflict_r {l : Launch} {D : va_G} {cA : Nat → ClassId} {adr : Nat → Nat} {n : Nat} {E : Nat → va_E} {S : CS} (hn : 30 ≤ n) (hR : Rep cA adr S E) {d : Nat} (hd : d < 3) {i : Nat} (hi : i < 120) : Met l yX3_beginsConflict (.code yX3_beginsConflict cX3_beginsConflict 5 (some .boolean) :: lw_G) ({ frames := 1, cells := 0, slots := 0, locals := 22 } : Room) (va_Pc [.ref (adr 0), .ref (adr (9 + 2 * d)), .int (nI i)] (wdU D (kty cA) adr n E)) (QcRead (bI (c_beg S d i))) 0 0 (fun _ => False) := by
  refine Met.ofW (cc := cX3_beginsConflict) (maxL := 5) (ret := (some .boolean)) (by decide) rfl ?_
  intro p e s m args below meth c s₁ B hml hv
  obtain ⟨rfl, hP, hN⟩ := hv
  have hx := B.exec
  have hb := B.bytes
  have hr := B.returns
  have hG : ∀ w ∈ lw_G, w.before _ s = true := fun w h => atoms_spec (ws := _ :: lw_G) B.pre w (List.mem_cons_of_mem _ h)
  have hown : s.vm.findClass RX3 = some m.cls := findClass_of_methodNamed B.named
  have hlocks := B.notSynchronized
  have hK := hN.1
  have hl := lv_entry ([.ref (adr 0), .ref (adr (9 + 2 * d)), .int (nI i)]) (n := 5) (Nat.le_of_ble_eq_true rfl)
  rw [lg_entry_eq]
  generalize (lg_sl ([.ref (adr 0), .ref (adr (9 + 2 * d)), .int (nI i)]) ++ List.replicate (5 - (lg_sl ([.ref (adr 0), .ref (adr (9 + 2 * d)), .int (nI i)])).length) Slot.unset).toArray = ls at hl ⊢
  have hl : lv_has ls 5 [(0, .ref (adr 0)), (1, .ref (adr (9 + 2 * d))), (2, .int (nI i))] := hl
  obtain ⟨hE0, hE1, hE2, hK0, hK1, hK2, hK3, hK4, ⟨hdv, hE8⟩, hDk, hTl, hct, hnm, htd, hmk, hlf⟩ := id hR
  obtain ⟨hD0, hD1⟩ := hDk d hd
  refine lv_aload_n hx hb dX3_beginsConflict_0 rfl (lv_at hl 0 rfl) ?_
  refine va_get (D := D) (ci := 3) (v := .ref (adr 3)) (C := RX3) (T := TX3) (N := 4) hx hb hG inG_X3 hown hK hP 0 (wl_at (by omega) hE0) rfl 2 (by decide) (hG _ g_101) (fun _ h9 => h9) rfl dX3_beginsConflict_1 ?_
  refine va_get (D := D) (ci := 2) (v := .ref (adr (3 + 4))) (C := RX2) (T := TX2) (N := 5) hx hb hG inG_X2 hown hK hP 3 (wl_at (by omega) hK0) rfl 3 (by decide) (hG _ g_39) (fun _ h9 => h9) rfl dX3_beginsConflict_4 ?_
  refine lv_iload_n hx hb dX3_beginsConflict_7 rfl (lv_at hl 2 rfl) ?_
  refine wn_zald (j := i) hx hb hK hP (by omega) hK4 (by omega) (by decide) dX3_beginsConflict_8 ?_
  refine lv_if_eq (tgt := 14) hx hb dX3_beginsConflict_9 (by decide) (fun c9 => ?_) (fun c9 => ?_)
  · have n9 : (c_sd S i) = false := bI_0.mp c9
    refine lv_iconst (v := 0) hx hb dX3_beginsConflict_14 (by decide) ?_
    refine lv_istore_n (lv' := [(3, .int 0), (0, .ref (adr 0)), (1, .ref (adr (9 + 2 * d))), (2, .int (nI i))]) hx hb dX3_beginsConflict_15 rfl hl (by decide) rfl (fun ls hl => ?_)
    refine lv_iconst (v := 0) hx hb dX3_beginsConflict_16 (by decide) ?_
    refine lv_istore (lv' := [(4, .int 0), (3, .int 0), (0, .ref (adr 0)), (1, .ref (adr (9 + 2 * d))), (2, .int (nI i))]) hx hb dX3_beginsConflict_17 hl (by decide) rfl (fun ls hl => ?_)
    have L19 : ∀ (f : Nat) (r : Nat) (q : Bool), c_ct S - r < f → r ≤ c_ct S → anB (fun r => c_rv S i r && c_see S d r && (decide (r < i) || c_sd S r)) r = false → anB (fun r => c_rv S i r && c_see S d r) r = q → ∀ ls : Array Slot, lv_has ls 5 [(4, .int (nI r)), (3, .int (bI q)), (0, .ref (adr 0)), (1, .ref (adr (9 + 2 * d))), (2, .int (nI i))] → W p l e (headSpec (.code yX3_beginsConflict cX3_beginsConflict 5 (some .boolean) :: lw_G) ({ frames := 1, cells := 0, slots := 0, locals := 22 } : Room)).room s m [.ref (adr 0), .ref (adr (9 + 2 * d)), .int (nI i)].toArray below meth c s.heap [] 0 0 (MQ below (QcRead (bI (c_beg S d i))) [.ref (adr 0), .ref (adr (9 + 2 * d)), .int (nI i)].toArray s 0 0 (fun _ => False)) (F0 m 19 ls []) := by
      intro f
      induction f with
      | zero => intro r q h0; exact absurd h0 (by omega)
      | succ f ih =>
        intro r q hf hr2 hq hz ls hl
        refine lv_iload hx hb dX3_beginsConflict_19 (lv_at hl 0 rfl) ?_
        refine lv_aload_n hx hb dX3_beginsConflict_21 rfl (lv_at hl 2 rfl) ?_
        refine va_get (D := D) (ci := 3) (v := .ref (adr 3)) (C := RX3) (T := TX3) (N := 4) hx hb hG inG_X3 hown hK hP 0 (wl_at (by omega) hE0) rfl 2 (by decide) (hG _ g_101) (fun _ h9 => h9) rfl dX3_beginsConflict_22 ?_
        refine va_get (D := D) (ci := 2) (v := .int (nI (c_ct S))) (C := RX2) (T := TX2) (N := 5) hx hb hG inG_X2 hown hK hP 3 (wl_at (by omega) hK0) rfl 4 (by decide) (hG _ g_41) (fun _ h9 => h9) rfl dX3_beginsConflict_25 ?_
        refine lv_icmp_ge (tgt := 82) hx hb dX3_beginsConflict_28 (by decide) (fun c28 => ?_) (fun c28 => ?_)
        · have n28 : (c_ct S) ≤ r := (nI_leI (a := (c_ct S)) (b := r) (by omega) (by omega)).mp c28
          refine lv_iload_n hx hb dX3_beginsConflict_82 rfl (lv_at hl 1 rfl) ?_
          have h9 : (bI q : Int32) = bI (c_beg S d i) := by unfold c_beg; rw [n9, show c_ct S = r from by omega, hq, hz]; simp
          exact W.zret (v := bI q) hx hb hr (by first | rfl | exact bI_nar _) (fun t ht _ => ⟨congrArg (fun z => Outcome.returned (some (Value.int z))) h9, ht⟩) (fun _ h => nomatch h) dX3_beginsConflict_83
        · have n28 : ¬ (c_ct S) ≤ r := fun h => c28 ((nI_leI (a := (c_ct S)) (b := r) (by omega) (by omega)).mpr h)
          refine lv_aload_n hx hb dX3_beginsConflict_31 rfl (lv_at hl 2 rfl) ?_
          refine va_get (D := D) (ci := 3) (v := .ref (adr 3)) (C := RX3) (T := TX3) (N := 4) hx hb hG inG_X3 hown hK hP 0 (wl_at (by omega) hE0) rfl 2 (by decide) (hG _ g_101) (fun _ h9 => h9) rfl dX3_beginsConflict_32 ?_
          refine lv_iload_n hx hb dX3_beginsConflict_35 rfl (lv_at hl 4 rfl) ?_
          refine lv_iload hx hb dX3_beginsConflict_36 (lv_at hl 0 rfl) ?_
          refine wn_rV (rest := []) hx hb hml hown hG hN hP (cX2_areRivals_r (by omega) hct hK0 hK1 hK2 hK3 hK4 hnm htd (i := i) (j := r) (by omega) (by omega)) (cwV 2 hG (gV g_319 g_320 g_321 g_2 g_322) rfl rfl rfl (by decide +kernel) ⟨Nat.le_of_ble_eq_true rfl, Nat.le_of_ble_eq_true rfl⟩) (by omega) hK0 rfl rfl hl.1 rfl (Nat.le_of_ble_eq_true rfl) dX3_beginsConflict_38 ⟨Nat.zero_le _, Nat.zero_le _⟩ ?_
          refine lv_if_eq (tgt := 76) hx hb dX3_beginsConflict_41 (by decide) (fun c41 => ?_) (fun c41 => ?_)
          · have n41 : (c_rv S i r) = false := bI_0.mp c41
            refine lv_iinc (v := nI (r + 1)) (lv' := [(4, .int (nI (r + 1))), (3, .int (bI q)), (0, .ref (adr 0)), (1, .ref (adr (9 + 2 * d))), (2, .int (nI i))]) hx hb dX3_beginsConflict_76 hl (k := 0) rfl (nI_1 _) (by decide) rfl (fun ls hl => ?_)
            refine lv_goto (tgt := 19) hx hb dX3_beginsConflict_79 (by decide) ?_
            exact ih (r + 1) q (by omega) (by omega) (by simp only [anB, hq, Bool.false_or]; first | (rw [n50]; simp; done) | (rw [n41]; simp; done)) (by simp only [anB, hz]; first | (rw [n50]; simp; done) | (rw [n41]; simp; done)) ls (lv_sub hl [0, 1, 2, 3, 4] rfl)
          · have n41 : (c_rv S i r) = true := bI_1.mp c41
            refine lv_aload_n hx hb dX3_beginsConflict_44 rfl (lv_at hl 3 rfl) ?_
            refine lv_iload hx hb dX3_beginsConflict_45 (lv_at hl 0 rfl) ?_
            refine wn_rV (rest := []) hx hb hml hown hG hN hP (cX0_hasSeen_r (by omega) hD0 hD1 (j := r) (by omega)) (cwV 1 hG (gV g_343 g_344 g_345 g_4 g_346) rfl rfl rfl (by decide +kernel) ⟨Nat.le_of_ble_eq_true rfl, Nat.le_of_ble_eq_true rfl⟩) (by omega) hD0 rfl rfl hl.1 rfl (Nat.le_of_ble_eq_true rfl) dX3_beginsConflict_47 ⟨Nat.zero_le _, Nat.zero_le _⟩ ?_
            refine lv_if_eq (tgt := 76) hx hb dX3_beginsConflict_50 (by decide) (fun c50 => ?_) (fun c50 => ?_)
            · have n50 : (c_see S d r) = false := bI_0.mp c50
              refine lv_iinc (v := nI (r + 1)) (lv' := [(4, .int (nI (r + 1))), (3, .int (bI q)), (0, .ref (adr 0)), (1, .ref (adr (9 + 2 * d))), (2, .int (nI i))]) hx hb dX3_beginsConflict_76 hl (k := 0) rfl (nI_1 _) (by decide) rfl (fun ls hl => ?_)
              refine lv_goto (tgt := 19) hx hb dX3_beginsConflict_79 (by decide) ?_
              exact ih (r + 1) q (by omega) (by omega) (by simp only [anB, hq, Bool.false_or]; first | (rw [n50]; simp; done) | (rw [n41]; simp; done)) (by simp only [anB, hz]; first | (rw [n50]; simp; done) | (rw [n41]; simp; done)) ls (lv_sub hl [0, 1, 2, 3, 4] rfl)
            · have n50 : (c_see S d r) = true := bI_1.mp c50
              refine lv_iload hx hb dX3_beginsConflict_53 (lv_at hl 0 rfl) ?_
              refine lv_iload_n hx hb dX3_beginsConflict_55 rfl (lv_at hl 4 rfl) ?_
              refine lv_icmp_lt (tgt := 72) hx hb dX3_beginsConflict_56 (by decide) (fun c56 => ?_) (fun c56 => ?_)
              · have n56 : r < i := (nI_ltI (a := r) (b := i) (by omega) (by omega)).mp c56
                refine lv_iconst (v := 0) hx hb dX3_beginsConflict_72 (by decide) ?_
                have h9 : (0 : Int32) = bI (c_beg S d i) := by unfold c_beg; rw [n9, anB_hit (P := fun r => c_rv S i r && c_see S d r && (decide (r < i) || c_sd S r)) (i := r) (by simp only [n41, n50, Bool.true_and]; first | (rw [show decide (r < i) = true from by simpa using n56]; rfl) | (rw [n69, Bool.or_true])) (by omega)]; rfl
                exact W.zret (v := 0) hx hb hr (by first | rfl | exact bI_nar _) (fun t ht _ => ⟨congrArg (fun z => Outcome.returned (some (Value.int z))) h9, ht⟩) (fun _ h => nomatch h) dX3_beginsConflict_73
              · have n56 : ¬ r < i := fun h => c56 ((nI_ltI (a := r) (b := i) (by omega) (by omega)).mpr h)
                refine lv_aload_n hx hb dX3_beginsConflict_59 rfl (lv_at hl 2 rfl) ?_
                refine va_get (D := D) (ci := 3) (v := .ref (adr 3)) (C := RX3) (T := TX3) (N := 4) hx hb hG inG_X3 hown hK hP 0 (wl_at (by omega) hE0) rfl 2 (by decide) (hG _ g_101) (fun _ h9 => h9) rfl dX3_beginsConflict_60 ?_
                refine va_get (D := D) (ci := 2) (v := .ref (adr (3 + 4))) (C := RX2) (T := TX2) (N := 5) hx hb hG inG_X2 hown hK hP 3 (wl_at (by omega) hK0) rfl 3 (by decide) (hG _ g_39) (fun _ h9 => h9) rfl dX3_beginsConflict_63 ?_
                refine lv_iload hx hb dX3_beginsConflict_66 (lv_at hl 0 rfl) ?_
                refine wn_zald (j := r) hx hb hK hP (by omega) hK4 (by omega) (by decide) dX3_beginsConflict_68 ?_
                refine lv_if_eq (tgt := 74) hx hb dX3_beginsConflict_69 (by decide) (fun c69 => ?_) (fun c69 => ?_)
                · have n69 : (c_sd S r) = false := bI_0.mp c69
                  refine lv_iconst (v := 1) hx hb dX3_beginsConflict_74 (by decide) ?_
                  refine lv_istore_n (lv' := [(3, .int 1), (4, .int (nI r)), (0, .ref (adr 0)), (1, .ref (adr (9 + 2 * d))), (2, .int (nI i))]) hx hb dX3_beginsConflict_75 rfl hl (by decide) rfl (fun ls hl => ?_)
                  refine lv_iinc (v := nI (r + 1)) (lv' := [(4, .int (nI (r + 1))), (3, .int 1), (0, .ref (adr 0)), (1, .ref (adr (9 + 2 * d))), (2, .int (nI i))]) hx hb dX3_beginsConflict_76 hl (k := 1) rfl (nI_1 _) (by decide) rfl (fun ls hl => ?_)
                  refine lv_goto (tgt := 19) hx hb dX3_beginsConflict_79 (by decide) ?_
                  exact ih (r + 1) true (by omega) (by omega) (by simp only [anB, hq, Bool.false_or]; rw [show decide (r < i) = false from by simpa using n56, n69]; simp) (by simp only [anB]; rw [n41, n50]; simp) ls (lv_sub hl [0, 1, 2, 3, 4] rfl)
                · have n69 : (c_sd S r) = true := bI_1.mp c69
                  refine lv_iconst (v := 0) hx hb dX3_beginsConflict_72 (by decide) ?_
                  have h9 : (0 : Int32) = bI (c_beg S d i) := by unfold c_beg; rw [n9, anB_hit (P := fun r => c_rv S i r && c_see S d r && (decide (r < i) || c_sd S r)) (i := r) (by simp only [n41, n50, Bool.true_and]; first | (rw [show decide (r < i) = true from by simpa using n56]; rfl) | (rw [n69, Bool.or_true])) (by omega)]; rfl
                  exact W.zret (v := 0) hx hb hr (by first | rfl | exact bI_nar _) (fun t ht _ => ⟨congrArg (fun z => Outcome.returned (some (Value.int z))) h9, ht⟩) (fun _ h => nomatch h) dX3_beginsConflict_73
    exact L19 (c_ct S + 1) 0 false (by omega) (by omega) rfl rfl ls (lv_sub hl [0, 1, 2, 3, 4] rfl)
  · have n9 : (c_sd S i) = true := bI_1.mp c9
    refine lv_iconst (v := 0) hx hb dX3_beginsConflict_12 (by decide) ?_
    have h9 : (0 : Int32) = bI (c_beg S d i) := by unfold c_beg; rw [n9]; rfl
    exact W.zret (v := 0) hx hb hr (by first | rfl | exact bI_nar _) (fun t ht _ => ⟨congrArg (fun z => Outcome.returned (some (Value.int z))) h9, ht⟩) (fun _ h => nomatch h) dX3_beginsConflict_13

set_option maxHeartbeats 4000000 in
set_option maxRecDepth 100000 in
theorem cX3_findLast_r {l : Launch} {D : va_G} {cA : Nat → ClassId} {adr : Nat → Nat} {n : Nat} {E : Nat → va_E} {S : CS} (hn : 30 ≤ n) (hR : Rep cA adr S E) {d : Nat} (hd : d < 3) {key : Nat} (hky : key < 8) (mm : Int32) : Met l yX3_findLast (.code yX3_findLast cX3_findLast 6 (some .int) :: lw_G) ({ frames := 4, cells := 0, slots := 0, locals := 94 } : Room) (va_Pc [.ref (adr 0), .ref (adr (9 + 2 * d)), .int (nI key), .int mm] (wdU D (kty cA) adr n E)) (QcRead (oI (c_lst S d key mm))) 0 0 (fun _ => False) := by
  refine Met.ofW (cc := cX3_findLast) (maxL := 6) (ret := (some .int)) (by decide) rfl ?_
  intro p e s m args below meth c s₁ B hml hv
  obtain ⟨rfl, hP, hN⟩ := hv
  have hx := B.exec
  have hb := B.bytes
  have hr := B.returns
  have hG : ∀ w ∈ lw_G, w.before _ s = true := fun w h => atoms_spec (ws := _ :: lw_G) B.pre w (List.mem_cons_of_mem _ h)
  have hown : s.vm.findClass RX3 = some m.cls := findClass_of_methodNamed B.named
  have hlocks := B.notSynchronized
  have hK := hN.1
  have hl := lv_entry ([.ref (adr 0), .ref (adr (9 + 2 * d)), .int (nI key), .int mm]) (n := 6) (Nat.le_of_ble_eq_true rfl)
  rw [lg_entry_eq]
  generalize (lg_sl ([.ref (adr 0), .ref (adr (9 + 2 * d)), .int (nI key), .int mm]) ++ List.replicate (6 - (lg_sl ([.ref (adr 0), .ref (adr (9 + 2 * d)), .int (nI key), .int mm])).length) Slot.unset).toArray = ls at hl ⊢
  have hl : lv_has ls 6 [(0, .ref (adr 0)), (1, .ref (adr (9 + 2 * d))), (2, .int (nI key)), (3, .int mm)] := hl
  obtain ⟨hE0, hE1, hE2, hK0, hK1, hK2, hK3, hK4, ⟨hdv, hE8⟩, hDk, hTl, hct, hnm, htd, hmk, hlf⟩ := id hR
  obtain ⟨hD0, hD1⟩ := hDk d hd
  refine lv_iconst (v := (-1)) hx hb dX3_findLast_0 (by decide) ?_
  refine lv_istore (lv' := [(4, .int (-1)), (0, .ref (adr 0)), (1, .ref (adr (9 + 2 * d))), (2, .int (nI key)), (3, .int mm)]) hx hb dX3_findLast_1 hl (by decide) rfl (fun ls hl => ?_)
  refine lv_iconst (v := 0) hx hb dX3_findLast_3 (by decide) ?_
  refine lv_istore (lv' := [(5, .int 0), (4, .int (-1)), (0, .ref (adr 0)), (1, .ref (adr (9 + 2 * d))), (2, .int (nI key)), (3, .int mm)]) hx hb dX3_findLast_4 hl (by decide) rfl (fun ls hl => ?_)
  have L6 : ∀ (f : Nat) (i : Nat) (b : Option Nat), c_ct S - i < f → i ≤ c_ct S → lsB (fun i => decide (c_td S i / 2 ^ 20 % 8 = key) && c_had S d i mm && c_cnt S d i mm) (c_ltr S) i = b → ∀ ls : Array Slot, lv_has ls 6 [(5, .int (nI i)), (4, .int (oI b)), (0, .ref (adr 0)), (1, .ref (adr (9 + 2 * d))), (2, .int (nI key)), (3, .int mm)] → W p l e (headSpec (.code yX3_findLast cX3_findLast 6 (some .int) :: lw_G) ({ frames := 4, cells := 0, slots := 0, locals := 94 } : Room)).room s m [.ref (adr 0), .ref (adr (9 + 2 * d)), .int (nI key), .int mm].toArray below meth c s.heap [] 0 0 (MQ below (QcRead (oI (c_lst S d key mm))) [.ref (adr 0), .ref (adr (9 + 2 * d)), .int (nI key), .int mm].toArray s 0 0 (fun _ => False)) (F0 m 6 ls []) := by
    intro f
    induction f with
    | zero => intro i b h0; exact absurd h0 (by omega)
    | succ f ih =>
      intro i b hf hi hq ls hl
      refine lv_iload hx hb dX3_findLast_6 (lv_at hl 0 rfl) ?_
      refine lv_aload_n hx hb dX3_findLast_8 rfl (lv_at hl 2 rfl) ?_
      refine va_get (D := D) (ci := 3) (v := .ref (adr 3)) (C := RX3) (T := TX3) (N := 4) hx hb hG inG_X3 hown hK hP 0 (wl_at (by omega) hE0) rfl 2 (by decide) (hG _ g_101) (fun _ h9 => h9) rfl dX3_findLast_9 ?_
      refine va_get (D := D) (ci := 2) (v := .int (nI (c_ct S))) (C := RX2) (T := TX2) (N := 5) hx hb hG inG_X2 hown hK hP 3 (wl_at (by omega) hK0) rfl 4 (by decide) (hG _ g_41) (fun _ h9 => h9) rfl dX3_findLast_12 ?_
      refine lv_icmp_ge (tgt := 79) hx hb dX3_findLast_15 (by decide) (fun c15 => ?_) (fun c15 => ?_)
      · have n15 : (c_ct S) ≤ i := (nI_leI (a := (c_ct S)) (b := i) (by omega) (by omega)).mp c15
        refine lv_iload hx hb dX3_findLast_79 (lv_at hl 1 rfl) ?_
        have h9 : (oI b : Int32) = oI (c_lst S d key mm) := by unfold c_lst; rw [show c_ct S = i from by omega, hq]
        exact W.iret (v := oI b) hx hb hr (fun t ht _ => ⟨congrArg (fun z => Outcome.returned (some (Value.int z))) h9, ht⟩) (fun _ h => nomatch h) dX3_findLast_81
      · have n15 : ¬ (c_ct S) ≤ i := fun h => c15 ((nI_leI (a := (c_ct S)) (b := i) (by omega) (by omega)).mpr h)
        have b2 := htd i
        refine lv_aload_n hx hb dX3_findLast_18 rfl (lv_at hl 2 rfl) ?_
        refine va_get (D := D) (ci := 3) (v := .ref (adr 3)) (C := RX3) (T := TX3) (N := 4) hx hb hG inG_X3 hown hK hP 0 (wl_at (by omega) hE0) rfl 2 (by decide) (hG _ g_101) (fun _ h9 => h9) rfl dX3_findLast_19 ?_
        refine lv_iload hx hb dX3_findLast_22 (lv_at hl 0 rfl) ?_
        refine wn_rV (rest := []) hx hb hml hown hG hN hP (cX2_key_r (by omega) hct hK0 hK1 hK2 hK3 hK4 hnm htd (i := i) (by omega)) (cwV 1 hG (gV g_413 g_414 g_415 g_2 g_416) rfl rfl rfl (by decide +kernel) ⟨Nat.le_of_ble_eq_true rfl, Nat.le_of_ble_eq_true rfl⟩) (by omega) hK0 rfl rfl hl.1 rfl (Nat.le_of_ble_eq_true rfl) dX3_findLast_24 ⟨Nat.zero_le _, Nat.zero_le _⟩ ?_
        refine lv_iload_n hx hb dX3_findLast_27 rfl (lv_at hl 4 rfl) ?_
        refine lv_icmp_ne (tgt := 73) hx hb dX3_findLast_28 (by decide) (fun c28 => ?_) (fun c28 => ?_)
        · have n28 : ¬ (c_td S i / 2 ^ 20 % 8) = key := fun h => c28 ((nI_eq (a := (c_td S i / 2 ^ 20 % 8)) (b := key) (by omega) (by omega)).mpr h)
          refine lv_iinc (v := nI (i + 1)) (lv' := [(5, .int (nI (i + 1))), (4, .int (oI b)), (0, .ref (adr 0)), (1, .ref (adr (9 + 2 * d))), (2, .int (nI key)), (3, .int mm)]) hx hb dX3_findLast_73 hl (k := 0) rfl (nI_1 _) (by decide) rfl (fun ls hl => ?_)
          refine lv_goto (tgt := 6) hx hb dX3_findLast_76 (by decide) ?_
          exact ih (i + 1) b (by omega) (by omega) (by simp only [lsB, hq]; first | (rw [n38, Bool.and_false]; rfl) | (rw [show decide (c_td S i / 2 ^ 20 % 8 = key) = false from by simpa using n28]; rfl)) ls (lv_sub hl [0, 1, 2, 3, 4, 5] rfl)
        · have n28 : (c_td S i / 2 ^ 20 % 8) = key := (nI_eq (a := (c_td S i / 2 ^ 20 % 8)) (b := key) (by omega) (by omega)).mp c28
          refine lv_aload_n hx hb dX3_findLast_31 rfl (lv_at hl 3 rfl) ?_
          refine lv_iload hx hb dX3_findLast_32 (lv_at hl 0 rfl) ?_
          refine lv_iload_n hx hb dX3_findLast_34 rfl (lv_at hl 5 rfl) ?_
          refine wn_rV (rest := []) hx hb hml hown hG hN hP (cX0_hadSeen_r (by omega) hD0 hD1 (j := i) (by omega) mm) (cwV 2 hG (gV g_420 g_421 g_422 g_4 g_423) rfl rfl rfl (by decide +kernel) ⟨Nat.le_of_ble_eq_true rfl, Nat.le_of_ble_eq_true rfl⟩) (by omega) hD0 rfl rfl hl.1 rfl (Nat.le_of_ble_eq_true rfl) dX3_findLast_35 ⟨Nat.zero_le _, Nat.zero_le _⟩ ?_
          refine lv_if_eq (tgt := 73) hx hb dX3_findLast_38 (by decide) (fun c38 => ?_) (fun c38 => ?_)
          · have n38 : (c_had S d i mm) = false := bI_0.mp c38
            refine lv_iinc (v := nI (i + 1)) (lv' := [(5, .int (nI (i + 1))), (4, .int (oI b)), (0, .ref (adr 0)), (1, .ref (adr (9 + 2 * d))), (2, .int (nI key)), (3, .int mm)]) hx hb dX3_findLast_73 hl (k := 0) rfl (nI_1 _) (by decide) rfl (fun ls hl => ?_)
            refine lv_goto (tgt := 6) hx hb dX3_findLast_76 (by decide) ?_
            exact ih (i + 1) b (by omega) (by omega) (by simp only [lsB, hq]; first | (rw [n38, Bool.and_false]; rfl) | (rw [show decide (c_td S i / 2 ^ 20 % 8 = key) = false from by simpa using n28]; rfl)) ls (lv_sub hl [0, 1, 2, 3, 4, 5] rfl)
          · have n38 : (c_had S d i mm) = true := bI_1.mp c38
            refine lv_iload hx hb dX3_findLast_41 (lv_at hl 1 rfl) ?_
            refine lv_iconst (v := (-1)) hx hb dX3_findLast_43 (by decide) ?_
            refine lv_icmp_eq (tgt := 58) hx hb dX3_findLast_44 (by decide) (fun c44 => ?_) (fun c44 => ?_)
            · have hbn : b = none := (oI_n1 (fun z hz => by subst hz; have := lsB_lt hq; omega)).mp c44
              subst hbn
              have n55 : ∀ z, (none : Option Nat) = some z → c_ltr S i z = true := fun z h => nomatch h
              refine lv_aload_n hx hb dX3_findLast_58 rfl (lv_at hl 2 rfl) ?_
              refine lv_aload_n hx hb dX3_findLast_59 rfl (lv_at hl 3 rfl) ?_
              refine lv_iload hx hb dX3_findLast_60 (lv_at hl 0 rfl) ?_
              refine lv_iload_n hx hb dX3_findLast_62 rfl (lv_at hl 5 rfl) ?_
              refine wn_rV (rest := []) hx hb hml hown hG hN hP (cX3_countsBy_r hn hR hd (i := i) (by omega) mm) (cwV 3 hG (gV g_450 g_452 gp_X3_countsBy g_1 g_453) rfl rfl rfl (by decide +kernel) ⟨Nat.le_of_ble_eq_true rfl, Nat.le_of_ble_eq_true rfl⟩) (by omega) hE0 rfl rfl hl.1 rfl (Nat.le_of_ble_eq_true rfl) dX3_findLast_63 ⟨Nat.zero_le _, Nat.zero_le _⟩ ?_
              refine lv_if_eq (tgt := 73) hx hb dX3_findLast_66 (by decide) (fun c66 => ?_) (fun c66 => ?_)
              · have n66 : (c_cnt S d i mm) = false := bI_0.mp c66
                refine lv_iinc (v := nI (i + 1)) (lv' := [(5, .int (nI (i + 1))), (4, .int (oI none)), (0, .ref (adr 0)), (1, .ref (adr (9 + 2 * d))), (2, .int (nI key)), (3, .int mm)]) hx hb dX3_findLast_73 hl (k := 0) rfl (nI_1 _) (by decide) rfl (fun ls hl => ?_)
                refine lv_goto (tgt := 6) hx hb dX3_findLast_76 (by decide) ?_
                exact ih (i + 1) none (by omega) (by omega) (by simp only [lsB, hq]; rw [n66, Bool.and_false]; rfl) ls (lv_sub hl [0, 1, 2, 3, 4, 5] rfl)
              · have n66 : (c_cnt S d i mm) = true := bI_1.mp c66
                refine lv_iload hx hb dX3_findLast_69 (lv_at hl 0 rfl) ?_
                refine lv_istore (lv' := [(4, .int (nI i)), (5, .int (nI i)), (0, .ref (adr 0)), (1, .ref (adr (9 + 2 * d))), (2, .int (nI key)), (3, .int mm)]) hx hb dX3_findLast_71 hl (by decide) rfl (fun ls hl => ?_)
                refine lv_iinc (v := nI (i + 1)) (lv' := [(5, .int (nI (i + 1))), (4, .int (nI i)), (0, .ref (adr 0)), (1, .ref (adr (9 + 2 * d))), (2, .int (nI key)), (3, .int mm)]) hx hb dX3_findLast_73 hl (k := 1) rfl (nI_1 _) (by decide) rfl (fun ls hl => ?_)
                refine lv_goto (tgt := 6) hx hb dX3_findLast_76 (by decide) ?_
                exact ih (i + 1) (some i) (by omega) (by omega) (by simp only [lsB, hq]; rw [show decide (c_td S i / 2 ^ 20 % 8 = key) = true from by simpa using n28, n38, n66]; rfl) ls (lv_sub hl [0, 1, 2, 3, 4, 5] rfl)
            · obtain ⟨z, hz⟩ : ∃ z, b = some z := by cases b with | none => exact absurd rfl c44 | some z => exact ⟨z, rfl⟩
              subst hz
              have bz := lsB_lt hq
              refine lv_aload_n hx hb dX3_findLast_47 rfl (lv_at hl 2 rfl) ?_
              refine lv_iload hx hb dX3_findLast_48 (lv_at hl 0 rfl) ?_
              refine lv_iload hx hb dX3_findLast_50 (lv_at hl 1 rfl) ?_
              refine wn_rV (rest := []) hx hb hml hown hG hN hP (cX3_isLater_r hn hR (i := i) (j := z) (by omega) (by omega)) (cwV 2 hG (gV g_424 g_426 gp_X3_isLater g_1 g_427) rfl rfl rfl (by decide +kernel) ⟨Nat.le_of_ble_eq_true rfl, Nat.le_of_ble_eq_true rfl⟩) (by omega) hE0 rfl rfl hl.1 rfl (Nat.le_of_ble_eq_true rfl) dX3_findLast_52 ⟨Nat.zero_le _, Nat.zero_le _⟩ ?_
              refine lv_if_eq (tgt := 73) hx hb dX3_findLast_55 (by decide) (fun c55 => ?_) (fun c55 => ?_)
              · have n55 : (c_ltr S i z) = false := bI_0.mp c55
                refine lv_iinc (v := nI (i + 1)) (lv' := [(5, .int (nI (i + 1))), (4, .int (nI z)), (0, .ref (adr 0)), (1, .ref (adr (9 + 2 * d))), (2, .int (nI key)), (3, .int mm)]) hx hb dX3_findLast_73 hl (k := 0) rfl (nI_1 _) (by decide) rfl (fun ls hl => ?_)
                refine lv_goto (tgt := 6) hx hb dX3_findLast_76 (by decide) ?_
                exact ih (i + 1) (some z) (by omega) (by omega) (by simp only [lsB, hq]; first | (rw [n66, Bool.and_false]; rfl) | (rw [n55, Bool.and_false]; rfl)) ls (lv_sub hl [0, 1, 2, 3, 4, 5] rfl)
              · have n55 : (c_ltr S i z) = true := bI_1.mp c55
                have n55 : ∀ z', some z = some z' → c_ltr S i z' = true := fun z' h => by cases h; exact n55
                refine lv_aload_n hx hb dX3_findLast_58 rfl (lv_at hl 2 rfl) ?_
                refine lv_aload_n hx hb dX3_findLast_59 rfl (lv_at hl 3 rfl) ?_
                refine lv_iload hx hb dX3_findLast_60 (lv_at hl 0 rfl) ?_
                refine lv_iload_n hx hb dX3_findLast_62 rfl (lv_at hl 5 rfl) ?_
                refine wn_rV (rest := []) hx hb hml hown hG hN hP (cX3_countsBy_r hn hR hd (i := i) (by omega) mm) (cwV 3 hG (gV g_450 g_452 gp_X3_countsBy g_1 g_453) rfl rfl rfl (by decide +kernel) ⟨Nat.le_of_ble_eq_true rfl, Nat.le_of_ble_eq_true rfl⟩) (by omega) hE0 rfl rfl hl.1 rfl (Nat.le_of_ble_eq_true rfl) dX3_findLast_63 ⟨Nat.zero_le _, Nat.zero_le _⟩ ?_
                refine lv_if_eq (tgt := 73) hx hb dX3_findLast_66 (by decide) (fun c66 => ?_) (fun c66 => ?_)
                · have n66 : (c_cnt S d i mm) = false := bI_0.mp c66
                  refine lv_iinc (v := nI (i + 1)) (lv' := [(5, .int (nI (i + 1))), (4, .int (nI z)), (0, .ref (adr 0)), (1, .ref (adr (9 + 2 * d))), (2, .int (nI key)), (3, .int mm)]) hx hb dX3_findLast_73 hl (k := 0) rfl (nI_1 _) (by decide) rfl (fun ls hl => ?_)
                  refine lv_goto (tgt := 6) hx hb dX3_findLast_76 (by decide) ?_
                  exact ih (i + 1) (some z) (by omega) (by omega) (by simp only [lsB, hq]; first | (rw [n66, Bool.and_false]; rfl) | (rw [n55, Bool.and_false]; rfl)) ls (lv_sub hl [0, 1, 2, 3, 4, 5] rfl)
                · have n66 : (c_cnt S d i mm) = true := bI_1.mp c66
                  refine lv_iload hx hb dX3_findLast_69 (lv_at hl 0 rfl) ?_
                  refine lv_istore (lv' := [(4, .int (nI i)), (5, .int (nI i)), (0, .ref (adr 0)), (1, .ref (adr (9 + 2 * d))), (2, .int (nI key)), (3, .int mm)]) hx hb dX3_findLast_71 hl (by decide) rfl (fun ls hl => ?_)
                  refine lv_iinc (v := nI (i + 1)) (lv' := [(5, .int (nI (i + 1))), (4, .int (nI i)), (0, .ref (adr 0)), (1, .ref (adr (9 + 2 * d))), (2, .int (nI key)), (3, .int mm)]) hx hb dX3_findLast_73 hl (k := 1) rfl (nI_1 _) (by decide) rfl (fun ls hl => ?_)
                  refine lv_goto (tgt := 6) hx hb dX3_findLast_76 (by decide) ?_
                  exact ih (i + 1) (some i) (by omega) (by omega) (by simp only [lsB, hq]; rw [show decide (c_td S i / 2 ^ 20 % 8 = key) = true from by simpa using n28, n38, n66, n55 z rfl]; rfl) ls (lv_sub hl [0, 1, 2, 3, 4, 5] rfl)
  exact L6 (c_ct S + 1) 0 none (by omega) (by omega) rfl ls (lv_sub hl [0, 1, 2, 3, 4, 5] rfl)
end
section
/-! EXCEPTIONS of the class: rows to throw them, and to pass them on, where nothing has been written yet -/
def xT (P : String → Prop) : String → State → State → Prop := fun X st t => P X ∧ st.heap.size ≤ t.heap.size ∧ ∀ q, q < st.heap.size → t.heap[q]? = st.heap[q]?
def qR (v : Option Value) (C : Prop) : Array Value → State → Outcome → State → Prop := fun _ st o t => o = .returned v ∧ C ∧ t.heap = st.heap
abbrev nIOB : String := "java/lang/IndexOutOfBoundsException"
abbrev nISE : String := "java/lang/IllegalStateException"
abbrev nIAE : String := "java/lang/IllegalArgumentException"
abbrev nUOE : String := "java/lang/UnsupportedOperationException"
abbrev xnm : List String := ["java/lang/RuntimeException", "java/lang/Exception"]
theorem xg_IOB : ∀ w ∈ (vx_atS RX3 117 nIOB xnm).filter goodWord, w ∈ lw_G := by decide +kernel
theorem xn_IOB : ∀ w ∈ (vx_atS RX3 117 nIOB xnm).filter (fun w => !goodWord w), w ∈ kN := by decide +kernel
theorem xo_IOB : ∀ w ∈ Cond.classLink RX3 113 nIOB :: Cond.initialized nIOB :: vx_atS RX3 117 nIOB xnm, vx_ot w = true := by decide +kernel
theorem xg_ISE : ∀ w ∈ (vx_atS RX3 46 nISE xnm).filter goodWord, w ∈ lw_G := by decide +kernel
theorem xn_ISE : ∀ w ∈ (vx_atS RX3 46 nISE xnm).filter (fun w => !goodWord w), w ∈ kN := by decide +kernel
theorem xo_ISE : ∀ w ∈ Cond.classLink RX3 42 nISE :: Cond.initialized nISE :: vx_atS RX3 46 nISE xnm, vx_ot w = true := by decide +kernel
theorem xg_IAE : ∀ w ∈ (vx_atS RX3 60 nIAE xnm).filter goodWord, w ∈ lw_G := by decide +kernel
theorem xn_IAE : ∀ w ∈ (vx_atS RX3 60 nIAE xnm).filter (fun w => !goodWord w), w ∈ kN := by decide +kernel
theorem xo_IAE : ∀ w ∈ Cond.classLink RX3 56 nIAE :: Cond.initialized nIAE :: vx_atS RX3 60 nIAE xnm, vx_ot w = true := by decide +kernel
theorem xg_UOE : ∀ w ∈ (vx_atS RX3 96 nUOE xnm).filter goodWord, w ∈ lw_G := by decide +kernel
theorem xn_UOE : ∀ w ∈ (vx_atS RX3 96 nUOE xnm).filter (fun w => !goodWord w), w ∈ kN := by decide +kernel
theorem xo_UOE : ∀ w ∈ Cond.classLink RX3 92 nUOE :: Cond.initialized nUOE :: vx_atS RX3 96 nUOE xnm, vx_ot w = true := by decide +kernel
theorem kN_ot : ∀ w ∈ kN, w.onTables = true := by decide +kernel
section XTH
variable {p : Program} {l : Launch} {e : Env} {R : Room} {s : State} {m : MethodId} {args : Array Value} {below : List Frame} {meth : Method} {c : Code} {cells slots MC MS : Nat}
variable {cc : ByteArray} {pc : Nat} {ls : Array Slot} {rest : List Value} {D : va_G} {cA : Nat → ClassId} {sa : Nat → Nat} {lo : Nat} {PX : String → Prop} {Qc : Array Value → State → Outcome → State → Prop} {free : Addr → Prop}
theorem th_IOB (hx : p.tables.exec = Jvm.exec) (hb : c.code = cc) (hl : l.stackTraces = false) (hown : s.vm.findClass RX3 = some m.cls) (hG : ∀ w ∈ lw_G, w.before args s = true) (hN : KN D (kty cA) s) (hX : KX sa lo s) (hsize : ls.size = c.maxLocals) (k : Nat) {ix : Nat} {tx : String} (hs : kSt[k]? = some (ix, tx))
    (d0 : decode cc pc = .ok (.new 113, 3)) (d3 : decode cc (pc + 3) = .ok (.dup, 1)) (d4 : decode cc (pc + 4) = .ok (.ldc ix, 2)) (d6 : decode cc (pc + 6) = .ok (.invokespecial 117, 3)) (d9 : decode cc (pc + 9) = .ok (.athrow, 1))
    (hno : ∀ x ∈ c.exceptionTable.toList, False) (hf : 5 < R.frames) (hL : (rest.map fun v => v.category).sum + 82 ≤ R.locals) (h1 : cells + 1 ≤ R.cells) (h2 : slots + 6 ≤ R.slots) (hlocks : meth.locks = false) (hPX : PX nIOB) (h3 : cells + 1 ≤ MC) (h4 : slots + 6 ≤ MS) :
    W p l e R s m args below meth c s.heap [] cells slots (vx_MQ below Qc (xT PX) args s MC MS free) (F0 m pc ls rest) :=
  vx_throwS (A := fun q => lo ≤ q) (cls := nIOB) (names := xnm) hx hb hl hown (by decide +kernel) (by decide +kernel) (hG _ g_125) (hG _ g_9) (hX.1 k _ hs)
    (vx_hat (fun w hw => hG w (xg_IOB w hw)) xn_IOB (fun w hw => va_Nw.use (kN_ot w hw) (hN.2 w hw))) xo_IOB hX.2.1 hX.2.2 va_S.rf hsize d0 d3 d4 d6 d9 (fun x h => (hno x h).elim) hf hL h1 h2 hlocks (fun t _ hz hk => ⟨hPX, hz, hk⟩) (fun z h => nomatch h) h3 h4
theorem th_ISE (hx : p.tables.exec = Jvm.exec) (hb : c.code = cc) (hl : l.stackTraces = false) (hown : s.vm.findClass RX3 = some m.cls) (hG : ∀ w ∈ lw_G, w.before args s = true) (hN : KN D (kty cA) s) (hX : KX sa lo s) (hsize : ls.size = c.maxLocals) (k : Nat) {ix : Nat} {tx : String} (hs : kSt[k]? = some (ix, tx))
    (d0 : decode cc pc = .ok (.new 42, 3)) (d3 : decode cc (pc + 3) = .ok (.dup, 1)) (d4 : decode cc (pc + 4) = .ok (.ldc ix, 2)) (d6 : decode cc (pc + 6) = .ok (.invokespecial 46, 3)) (d9 : decode cc (pc + 9) = .ok (.athrow, 1))
    (hno : ∀ x ∈ c.exceptionTable.toList, False) (hf : 5 < R.frames) (hL : (rest.map fun v => v.category).sum + 82 ≤ R.locals) (h1 : cells + 1 ≤ R.cells) (h2 : slots + 6 ≤ R.slots) (hlocks : meth.locks = false) (hPX : PX nISE) (h3 : cells + 1 ≤ MC) (h4 : slots + 6 ≤ MS) :
    W p l e R s m args below meth c s.heap [] cells slots (vx_MQ below Qc (xT PX) args s MC MS free) (F0 m pc ls rest) :=
  vx_throwS (A := fun q => lo ≤ q) (cls := nISE) (names := xnm) hx hb hl hown (by decide +kernel) (by decide +kernel) (hG _ g_194) (hG _ g_10) (hX.1 k _ hs)
    (vx_hat (fun w hw => hG w (xg_ISE w hw)) xn_ISE (fun w hw => va_Nw.use (kN_ot w hw) (hN.2 w hw))) xo_ISE hX.2.1 hX.2.2 va_S.rf hsize d0 d3 d4 d6 d9 (fun x h => (hno x h).elim) hf hL h1 h2 hlocks (fun t _ hz hk => ⟨hPX, hz, hk⟩) (fun z h => nomatch h) h3 h4
theorem th_IAE (hx : p.tables.exec = Jvm.exec) (hb : c.code = cc) (hl : l.stackTraces = false) (hown : s.vm.findClass RX3 = some m.cls) (hG : ∀ w ∈ lw_G, w.before args s = true) (hN : KN D (kty cA) s) (hX : KX sa lo s) (hsize : ls.size = c.maxLocals) (k : Nat) {ix : Nat} {tx : String} (hs : kSt[k]? = some (ix, tx))
    (d0 : decode cc pc = .ok (.new 56, 3)) (d3 : decode cc (pc + 3) = .ok (.dup, 1)) (d4 : decode cc (pc + 4) = .ok (.ldc ix, 2)) (d6 : decode cc (pc + 6) = .ok (.invokespecial 60, 3)) (d9 : decode cc (pc + 9) = .ok (.athrow, 1))
    (hno : ∀ x ∈ c.exceptionTable.toList, False) (hf : 5 < R.frames) (hL : (rest.map fun v => v.category).sum + 82 ≤ R.locals) (h1 : cells + 1 ≤ R.cells) (h2 : slots + 6 ≤ R.slots) (hlocks : meth.locks = false) (hPX : PX nIAE) (h3 : cells + 1 ≤ MC) (h4 : slots + 6 ≤ MS) :
    W p l e R s m args below meth c s.heap [] cells slots (vx_MQ below Qc (xT PX) args s MC MS free) (F0 m pc ls rest) :=
  vx_throwS (A := fun q => lo ≤ q) (cls := nIAE) (names := xnm) hx hb hl hown (by decide +kernel) (by decide +kernel) (hG _ g_214) (hG _ g_11) (hX.1 k _ hs)
    (vx_hat (fun w hw => hG w (xg_IAE w hw)) xn_IAE (fun w hw => va_Nw.use (kN_ot w hw) (hN.2 w hw))) xo_IAE hX.2.1 hX.2.2 va_S.rf hsize d0 d3 d4 d6 d9 (fun x h => (hno x h).elim) hf hL h1 h2 hlocks (fun t _ hz hk => ⟨hPX, hz, hk⟩) (fun z h => nomatch h) h3 h4
theorem th_UOE (hx : p.tables.exec = Jvm.exec) (hb : c.code = cc) (hl : l.stackTraces = false) (hown : s.vm.findClass RX3 = some m.cls) (hG : ∀ w ∈ lw_G, w.before args s = true) (hN : KN D (kty cA) s) (hX : KX sa lo s) (hsize : ls.size = c.maxLocals) (k : Nat) {ix : Nat} {tx : String} (hs : kSt[k]? = some (ix, tx))
    (d0 : decode cc pc = .ok (.new 92, 3)) (d3 : decode cc (pc + 3) = .ok (.dup, 1)) (d4 : decode cc (pc + 4) = .ok (.ldc ix, 2)) (d6 : decode cc (pc + 6) = .ok (.invokespecial 96, 3)) (d9 : decode cc (pc + 9) = .ok (.athrow, 1))
    (hno : ∀ x ∈ c.exceptionTable.toList, False) (hf : 5 < R.frames) (hL : (rest.map fun v => v.category).sum + 82 ≤ R.locals) (h1 : cells + 1 ≤ R.cells) (h2 : slots + 6 ≤ R.slots) (hlocks : meth.locks = false) (hPX : PX nUOE) (h3 : cells + 1 ≤ MC) (h4 : slots + 6 ≤ MS) :
    W p l e R s m args below meth c s.heap [] cells slots (vx_MQ below Qc (xT PX) args s MC MS free) (F0 m pc ls rest) :=
  vx_throwS (A := fun q => lo ≤ q) (cls := nUOE) (names := xnm) hx hb hl hown (by decide +kernel) (by decide +kernel) (hG _ g_291) (hG _ g_12) (hX.1 k _ hs)
    (vx_hat (fun w hw => hG w (xg_UOE w hw)) xn_UOE (fun w hw => va_Nw.use (kN_ot w hw) (hN.2 w hw))) xo_UOE hX.2.1 hX.2.2 va_S.rf hsize d0 d3 d4 d6 d9 (fun x h => (hno x h).elim) hf hL h1 h2 hlocks (fun t _ hz hk => ⟨hPX, hz, hk⟩) (fun z h => nomatch h) h3 h4
end XTH
section XCL
variable {p : Program} {l : Launch} {e : Env} {R : Room} {s : State} {m : MethodId} {args : Array Value} {below : List Frame} {meth : Method} {c : Code} {cells slots MC MS : Nat}
variable {cc : ByteArray} {pc : Nat} {ls : Array Slot} {rest : List Value} {D : va_G} {cA : Nat → ClassId} {sa : Nat → Nat} {lo n : Nat} {adr : Nat → Nat} {E : Nat → va_E} {PX PX2 : String → Prop} {Qc : Array Value → State → Outcome → State → Prop} {free : Addr → Prop} {C : Prop}
/-- a static call of a check: on it goes, or the exception goes on to the caller -/
theorem wx_S {own : String} {y : MethodName} {bytes : ByteArray} {maxL nL na index mc ms : Nat} {ret : Option FieldType} {wy : Cond} {rm : Room} {As : List Value} {st0 : List Value}
    (hx : p.tables.exec = Jvm.exec) (hb : c.code = cc) (hml : c.maxLocals = nL) (hown : s.vm.findClass own = some m.cls) (hG : ∀ w ∈ lw_G, w.before args s = true) (hN : KN D (kty cA) s) (hX : KX sa lo s) (hP : va_P D kcl (wl adr n E) s.heap)
    (hM : vx_Met l y (wy :: lw_G) rm (va_Pc As (wdX D (kty cA) sa lo adr n E)) (qR none C) (xT PX) mc ms (fun _ => False)) (cw : CallB R s args own index y bytes maxL ret (wy :: lw_G) rm mc ms na ∧ (Cond.static y).before args s = true)
    (hn : As.length = na) (hsize : ls.size = nL) (hstack : st0 = As.reverse ++ rest) (hW : (rest.map fun v => v.category).sum ≤ 8) (hdg : decode cc pc = .ok (.invokestatic index, 3)) (hf : cells + mc ≤ R.cells ∧ slots + ms ≤ R.slots)
    (hno : ∀ x ∈ c.exceptionTable.toList, False) (hlocks : meth.locks = false) (h3 : cells + mc ≤ MC) (h4 : slots + ms ≤ MS) (hPX : ∀ X, PX X → PX2 X)
    (kk : C → W p l e R s m args below meth c s.heap [] (cells + mc) (slots + ms) (vx_MQ below Qc (xT PX2) args s MC MS free) (F0 m (pc + 3) ls rest)) : W p l e R s m args below meth c s.heap [] cells slots (vx_MQ below Qc (xT PX2) args s MC MS free) (F0 m pc ls st0) := by
  subst hstack
  intro T hT X
  rcases vx_runS (p := p) (l := l) (e := e) (R := R) (s := s) (m := m) (args := args) (below := below) (meth := meth) (c := c) (H := s.heap) (locs := []) (cells := cells) (slots := slots) (g := F0 m pc ls (As.reverse ++ rest)) (As := As) (rest := rest) ⟨hx, hb, hml, hown, hG⟩ hM cw ⟨wdX_blind, wdX_pre hN hX va_S.rf hP⟩ rfl hn hsize rfl (lv_room hW) hdg hf T hT X with ⟨v, st₀, t, T', L, h0, X', hL, e1, e2, ⟨hv, hC, hh⟩, st⟩ | ⟨q, st₀, t, T', L, F, ce, h0, X', hL, e1, e2, ⟨hp, hz, hk⟩, hce, hcv, hcl, st⟩
  · cases hv
    obtain ⟨t2, a1, b1⟩ := kk hC T' (by rw [e1, hh, h0]) (Stand.forget (locs := []) X' (fun q h => (hL q h).elim))
    exact ⟨t2, st t2 a1, b1⟩
  · obtain ⟨t2, a1, b1⟩ := vx_out (p := p) (l := l) (e := e) (R := R) (s := s) (m := m) (args := args) (below := below) (meth := meth) (c := c) (H := T'.heap) (locs := []) (cells := cells + mc) (slots := slots + ms) (Qc := Qc) (XC := xT PX2) (free := free) (mc := MC) (ms := MS) (pc := pc) (ls := ls) (rest := rest) (E := F) (ce := ce) (q := q) (fun x h => (hno x h).elim) hlocks (by rw [e1]; exact hce) hcv hcl
      (fun u hu _ => ⟨hPX F hp, by rw [hu, e1]; rw [h0] at hz; exact hz, fun q hq => by rw [hu, e1, ← h0]; exact hk q (by rw [h0]; exact hq)⟩) (fun z h => nomatch h) h3 h4 T' rfl (Stand.forget (locs := []) X' (fun q h => (hL q h).elim))
    exact ⟨t2, st.trans a1, b1⟩
end XCL
def inN (x : Int32) (n : Nat) : Bool := decide (0 ≤ x) && decide (x.toInt < n)
theorem inN_nI {j n : Nat} (h : j < n) (hn : n < 2 ^ 31) : inN (nI j) n = true := by
  unfold inN
  rw [decide_eq_true (nI_pos' (by omega)), decide_eq_true (by rw [nI_toInt (by omega)]; omega)]; rfl
theorem inN_of {x : Int32} {n : Nat} (h : inN x n = true) (hn : n < 2 ^ 31) : ∃ j : Nat, j < n ∧ x = nI j := by
  unfold inN at h
  simp only [Bool.and_eq_true, decide_eq_true_eq] at h
  exact vp_in_of (vp_in_iff.mpr ⟨by have := Int32.le_iff_toInt_le.mp h.1; exact this, h.2⟩) hn
theorem inN_neg {x : Int32} {n : Nat} (h : x < 0) : inN x n = false := by
  unfold inN
  rw [decide_eq_false (by intro h2; exact absurd h (Int32.not_lt.mpr h2))]; rfl
theorem inN_lt {x : Int32} {n : Nat} (hn : n < 2 ^ 31) (h : ¬ x < 0) : inN x n = true ↔ x < nI n := by
  unfold inN
  rw [decide_eq_true (Int32.not_lt.mp h), Bool.true_and, decide_eq_true_eq, Int32.lt_iff_toInt_lt, nI_toInt hn]
end
section
theorem inN_le {x : Int32} {n : Nat} (hn : n + 1 < 2 ^ 31) (h : ¬ x < 0) : inN x (n + 1) = true ↔ x ≤ nI n := by
  unfold inN
  rw [decide_eq_true (Int32.not_lt.mp h), Bool.true_and, decide_eq_true_eq, Int32.le_iff_toInt_le, nI_toInt (by omega)]
  omega

set_option maxHeartbeats 4000000 in
set_option maxRecDepth 100000 in
theorem cX3_needTeller_x {l : Launch} {D : va_G} {cA : Nat → ClassId} {adr : Nat → Nat} {n : Nat} {E : Nat → va_E} {sa : Nat → Nat} {lo : Nat} (hls : l.stackTraces = false)  (x : Int32) : vx_Met l yX3_needTeller (.code yX3_needTeller cX3_needTeller 1 none :: lw_G) ({ frames := 6, cells := 1, slots := 6, locals := 82 } : Room) (va_Pc [.int x] (wdX D (kty cA) sa lo adr n E)) (qR none (inN x 5 = true)) (xT (fun X => X = nIOB ∧ inN x 5 = false)) 1 6 (fun _ => False) := by
  refine vx_ofW (cc := cX3_needTeller) (maxL := 1) (ret := none) (by decide) rfl ?_
  intro p e s m args below meth c s₁ B hml hno hv
  obtain ⟨rfl, hP, hN, hX⟩ := hv
  have hx := B.exec
  have hb := B.bytes
  have hr := B.returns
  have hG : ∀ w ∈ lw_G, w.before _ s = true := fun w h => atoms_spec (ws := _ :: lw_G) B.pre w (List.mem_cons_of_mem _ h)
  have hown : s.vm.findClass RX3 = some m.cls := findClass_of_methodNamed B.named
  have hlocks := B.notSynchronized
  have hK := hN.1
  have hl := lv_entry ([.int x]) (n := 1) (Nat.le_of_ble_eq_true rfl)
  rw [lg_entry_eq]
  generalize (lg_sl ([.int x]) ++ List.replicate (1 - (lg_sl ([.int x])).length) Slot.unset).toArray = ls at hl ⊢
  have hl : lv_has ls 1 [(0, .int x)] := hl
  refine lv_iload_n hx hb dX3_needTeller_0 rfl (lv_at hl 0 rfl) ?_
  refine lv_if_lt (tgt := 9) hx hb dX3_needTeller_1 (by decide) (fun c1 => ?_) (fun c1 => ?_)
  · exact th_IOB hx hb hls hown hG hN hX (hl.1.trans hml.symm) 0 rfl dX3_needTeller_9 dX3_needTeller_12 dX3_needTeller_13 dX3_needTeller_15 dX3_needTeller_18 hno (Nat.le_of_ble_eq_true rfl) (Nat.le_of_ble_eq_true rfl) (Nat.le_of_ble_eq_true rfl) (Nat.le_of_ble_eq_true rfl) hlocks ⟨rfl, (by first | exact inN_neg c1 | exact Bool.eq_false_iff.mpr (fun h => c6 ((inN_lt (n := 5) (by decide) c1).mp h)))⟩ (Nat.le_of_ble_eq_true rfl) (Nat.le_of_ble_eq_true rfl)
  · refine lv_iload_n hx hb dX3_needTeller_4 rfl (lv_at hl 0 rfl) ?_
    refine lv_iconst (v := 5) hx hb dX3_needTeller_5 (by decide) ?_
    refine lv_icmp_lt (tgt := 19) hx hb dX3_needTeller_6 (by decide) (fun c6 => ?_) (fun c6 => ?_)
    · refine W.widen (k := 1) (n := 6) (Nat.le_of_ble_eq_true rfl) (Nat.le_of_ble_eq_true rfl) ?_
      exact vx_ret (W.vret hx hb hr (fun t ht _ => ⟨rfl, (inN_lt (n := 5) (by decide) c1).mpr c6, ht⟩) (fun _ h => nomatch h) dX3_needTeller_19)
    · exact th_IOB hx hb hls hown hG hN hX (hl.1.trans hml.symm) 0 rfl dX3_needTeller_9 dX3_needTeller_12 dX3_needTeller_13 dX3_needTeller_15 dX3_needTeller_18 hno (Nat.le_of_ble_eq_true rfl) (Nat.le_of_ble_eq_true rfl) (Nat.le_of_ble_eq_true rfl) (Nat.le_of_ble_eq_true rfl) hlocks ⟨rfl, (by first | exact inN_neg c1 | exact Bool.eq_false_iff.mpr (fun h => c6 ((inN_lt (n := 5) (by decide) c1).mp h)))⟩ (Nat.le_of_ble_eq_true rfl) (Nat.le_of_ble_eq_true rfl)

set_option maxHeartbeats 4000000 in
set_option maxRecDepth 100000 in
theorem cX3_needDesk_x {l : Launch} {D : va_G} {cA : Nat → ClassId} {adr : Nat → Nat} {n : Nat} {E : Nat → va_E} {sa : Nat → Nat} {lo : Nat} (hls : l.stackTraces = false)  (x : Int32) : vx_Met l yX3_needDesk (.code yX3_needDesk cX3_needDesk 1 none :: lw_G) ({ frames := 6, cells := 1, slots := 6, locals := 82 } : Room) (va_Pc [.int x] (wdX D (kty cA) sa lo adr n E)) (qR none (inN x 3 = true)) (xT (fun X => X = nIOB ∧ inN x 3 = false)) 1 6 (fun _ => False) := by
  refine vx_ofW (cc := cX3_needDesk) (maxL := 1) (ret := none) (by decide) rfl ?_
  intro p e s m args below meth c s₁ B hml hno hv
  obtain ⟨rfl, hP, hN, hX⟩ := hv
  have hx := B.exec
  have hb := B.bytes
  have hr := B.returns
  have hG : ∀ w ∈ lw_G, w.before _ s = true := fun w h => atoms_spec (ws := _ :: lw_G) B.pre w (List.mem_cons_of_mem _ h)
  have hown : s.vm.findClass RX3 = some m.cls := findClass_of_methodNamed B.named
  have hlocks := B.notSynchronized
  have hK := hN.1
  have hl := lv_entry ([.int x]) (n := 1) (Nat.le_of_ble_eq_true rfl)
  rw [lg_entry_eq]
  generalize (lg_sl ([.int x]) ++ List.replicate (1 - (lg_sl ([.int x])).length) Slot.unset).toArray = ls at hl ⊢
  have hl : lv_has ls 1 [(0, .int x)] := hl
  refine lv_iload_n hx hb dX3_needDesk_0 rfl (lv_at hl 0 rfl) ?_
  refine lv_if_lt (tgt := 9) hx hb dX3_needDesk_1 (by decide) (fun c1 => ?_) (fun c1 => ?_)
  · exact th_IOB hx hb hls hown hG hN hX (hl.1.trans hml.symm) 4 rfl dX3_needDesk_9 dX3_needDesk_12 dX3_needDesk_13 dX3_needDesk_15 dX3_needDesk_18 hno (Nat.le_of_ble_eq_true rfl) (Nat.le_of_ble_eq_true rfl) (Nat.le_of_ble_eq_true rfl) (Nat.le_of_ble_eq_true rfl) hlocks ⟨rfl, (by first | exact inN_neg c1 | exact Bool.eq_false_iff.mpr (fun h => c6 ((inN_lt (n := 3) (by decide) c1).mp h)))⟩ (Nat.le_of_ble_eq_true rfl) (Nat.le_of_ble_eq_true rfl)
  · refine lv_iload_n hx hb dX3_needDesk_4 rfl (lv_at hl 0 rfl) ?_
    refine lv_iconst (v := 3) hx hb dX3_needDesk_5 (by decide) ?_
    refine lv_icmp_lt (tgt := 19) hx hb dX3_needDesk_6 (by decide) (fun c6 => ?_) (fun c6 => ?_)
    · refine W.widen (k := 1) (n := 6) (Nat.le_of_ble_eq_true rfl) (Nat.le_of_ble_eq_true rfl) ?_
      exact vx_ret (W.vret hx hb hr (fun t ht _ => ⟨rfl, (inN_lt (n := 3) (by decide) c1).mpr c6, ht⟩) (fun _ h => nomatch h) dX3_needDesk_19)
    · exact th_IOB hx hb hls hown hG hN hX (hl.1.trans hml.symm) 4 rfl dX3_needDesk_9 dX3_needDesk_12 dX3_needDesk_13 dX3_needDesk_15 dX3_needDesk_18 hno (Nat.le_of_ble_eq_true rfl) (Nat.le_of_ble_eq_true rfl) (Nat.le_of_ble_eq_true rfl) (Nat.le_of_ble_eq_true rfl) hlocks ⟨rfl, (by first | exact inN_neg c1 | exact Bool.eq_false_iff.mpr (fun h => c6 ((inN_lt (n := 3) (by decide) c1).mp h)))⟩ (Nat.le_of_ble_eq_true rfl) (Nat.le_of_ble_eq_true rfl)

set_option maxHeartbeats 4000000 in
set_option maxRecDepth 100000 in
theorem cX3_needKey_x {l : Launch} {D : va_G} {cA : Nat → ClassId} {adr : Nat → Nat} {n : Nat} {E : Nat → va_E} {sa : Nat → Nat} {lo : Nat} (hls : l.stackTraces = false)  (x : Int32) : vx_Met l yX3_needKey (.code yX3_needKey cX3_needKey 1 none :: lw_G) ({ frames := 6, cells := 1, slots := 6, locals := 82 } : Room) (va_Pc [.int x] (wdX D (kty cA) sa lo adr n E)) (qR none (inN x 8 = true)) (xT (fun X => X = nIOB ∧ inN x 8 = false)) 1 6 (fun _ => False) := by
  refine vx_ofW (cc := cX3_needKey) (maxL := 1) (ret := none) (by decide) rfl ?_
  intro p e s m args below meth c s₁ B hml hno hv
  obtain ⟨rfl, hP, hN, hX⟩ := hv
  have hx := B.exec
  have hb := B.bytes
  have hr := B.returns
  have hG : ∀ w ∈ lw_G, w.before _ s = true := fun w h => atoms_spec (ws := _ :: lw_G) B.pre w (List.mem_cons_of_mem _ h)
  have hown : s.vm.findClass RX3 = some m.cls := findClass_of_methodNamed B.named
  have hlocks := B.notSynchronized
  have hK := hN.1
  have hl := lv_entry ([.int x]) (n := 1) (Nat.le_of_ble_eq_true rfl)
  rw [lg_entry_eq]
  generalize (lg_sl ([.int x]) ++ List.replicate (1 - (lg_sl ([.int x])).length) Slot.unset).toArray = ls at hl ⊢
  have hl : lv_has ls 1 [(0, .int x)] := hl
  refine lv_iload_n hx hb dX3_needKey_0 rfl (lv_at hl 0 rfl) ?_
  refine lv_if_lt (tgt := 10) hx hb dX3_needKey_1 (by decide) (fun c1 => ?_) (fun c1 => ?_)
  · exact th_IOB hx hb hls hown hG hN hX (hl.1.trans hml.symm) 13 rfl dX3_needKey_10 dX3_needKey_13 dX3_needKey_14 dX3_needKey_16 dX3_needKey_19 hno (Nat.le_of_ble_eq_true rfl) (Nat.le_of_ble_eq_true rfl) (Nat.le_of_ble_eq_true rfl) (Nat.le_of_ble_eq_true rfl) hlocks ⟨rfl, (by first | exact inN_neg c1 | exact Bool.eq_false_iff.mpr (fun h => c7 ((inN_lt (n := 8) (by decide) c1).mp h)))⟩ (Nat.le_of_ble_eq_true rfl) (Nat.le_of_ble_eq_true rfl)
  · refine lv_iload_n hx hb dX3_needKey_4 rfl (lv_at hl 0 rfl) ?_
    refine lv_bipush (v := 8) hx hb dX3_needKey_5 (by decide) ?_
    refine lv_icmp_lt (tgt := 20) hx hb dX3_needKey_7 (by decide) (fun c7 => ?_) (fun c7 => ?_)
    · refine W.widen (k := 1) (n := 6) (Nat.le_of_ble_eq_true rfl) (Nat.le_of_ble_eq_true rfl) ?_
      exact vx_ret (W.vret hx hb hr (fun t ht _ => ⟨rfl, (inN_lt (n := 8) (by decide) c1).mpr c7, ht⟩) (fun _ h => nomatch h) dX3_needKey_20)
    · exact th_IOB hx hb hls hown hG hN hX (hl.1.trans hml.symm) 13 rfl dX3_needKey_10 dX3_needKey_13 dX3_needKey_14 dX3_needKey_16 dX3_needKey_19 hno (Nat.le_of_ble_eq_true rfl) (Nat.le_of_ble_eq_true rfl) (Nat.le_of_ble_eq_true rfl) (Nat.le_of_ble_eq_true rfl) hlocks ⟨rfl, (by first | exact inN_neg c1 | exact Bool.eq_false_iff.mpr (fun h => c7 ((inN_lt (n := 8) (by decide) c1).mp h)))⟩ (Nat.le_of_ble_eq_true rfl) (Nat.le_of_ble_eq_true rfl)

set_option maxHeartbeats 4000000 in
set_option maxRecDepth 100000 in
theorem cX3_needTime_x {l : Launch} {D : va_G} {cA : Nat → ClassId} {adr : Nat → Nat} {n : Nat} {E : Nat → va_E} {sa : Nat → Nat} {lo : Nat} (hls : l.stackTraces = false)  (x : Int32) : vx_Met l yX3_needTime (.code yX3_needTime cX3_needTime 1 none :: lw_G) ({ frames := 6, cells := 1, slots := 6, locals := 82 } : Room) (va_Pc [.int x] (wdX D (kty cA) sa lo adr n E)) (qR none (inN x 1000001 = true)) (xT (fun X => X = nIAE ∧ inN x 1000001 = false)) 1 6 (fun _ => False) := by
  refine vx_ofW (cc := cX3_needTime) (maxL := 1) (ret := none) (by decide) rfl ?_
  intro p e s m args below meth c s₁ B hml hno hv
  obtain ⟨rfl, hP, hN, hX⟩ := hv
  have hx := B.exec
  have hb := B.bytes
  have hr := B.returns
  have hG : ∀ w ∈ lw_G, w.before _ s = true := fun w h => atoms_spec (ws := _ :: lw_G) B.pre w (List.mem_cons_of_mem _ h)
  have hown : s.vm.findClass RX3 = some m.cls := findClass_of_methodNamed B.named
  have hlocks := B.notSynchronized
  have hK := hN.1
  have hl := lv_entry ([.int x]) (n := 1) (Nat.le_of_ble_eq_true rfl)
  rw [lg_entry_eq]
  generalize (lg_sl ([.int x]) ++ List.replicate (1 - (lg_sl ([.int x])).length) Slot.unset).toArray = ls at hl ⊢
  have hl : lv_has ls 1 [(0, .int x)] := hl
  refine lv_iload_n hx hb dX3_needTime_0 rfl (lv_at hl 0 rfl) ?_
  refine lv_if_lt (tgt := 10) hx hb dX3_needTime_1 (by decide) (fun c1 => ?_) (fun c1 => ?_)
  · exact th_IAE hx hb hls hown hG hN hX (hl.1.trans hml.symm) 2 rfl dX3_needTime_10 dX3_needTime_13 dX3_needTime_14 dX3_needTime_16 dX3_needTime_19 hno (Nat.le_of_ble_eq_true rfl) (Nat.le_of_ble_eq_true rfl) (Nat.le_of_ble_eq_true rfl) (Nat.le_of_ble_eq_true rfl) hlocks ⟨rfl, (by first | exact inN_neg c1 | exact Bool.eq_false_iff.mpr (fun h => c7 ((inN_le (n := 1000000) (by decide) c1).mp h)))⟩ (Nat.le_of_ble_eq_true rfl) (Nat.le_of_ble_eq_true rfl)
  · refine lv_iload_n hx hb dX3_needTime_4 rfl (lv_at hl 0 rfl) ?_
    refine lv_ldc hx hb hown (hG _ g_213) dX3_needTime_5 ?_
    refine lv_icmp_le (tgt := 20) hx hb dX3_needTime_7 (by decide) (fun c7 => ?_) (fun c7 => ?_)
    · refine W.widen (k := 1) (n := 6) (Nat.le_of_ble_eq_true rfl) (Nat.le_of_ble_eq_true rfl) ?_
      exact vx_ret (W.vret hx hb hr (fun t ht _ => ⟨rfl, (inN_le (n := 1000000) (by decide) c1).mpr c7, ht⟩) (fun _ h => nomatch h) dX3_needTime_20)
    · exact th_IAE hx hb hls hown hG hN hX (hl.1.trans hml.symm) 2 rfl dX3_needTime_10 dX3_needTime_13 dX3_needTime_14 dX3_needTime_16 dX3_needTime_19 hno (Nat.le_of_ble_eq_true rfl) (Nat.le_of_ble_eq_true rfl) (Nat.le_of_ble_eq_true rfl) (Nat.le_of_ble_eq_true rfl) hlocks ⟨rfl, (by first | exact inN_neg c1 | exact Bool.eq_false_iff.mpr (fun h => c7 ((inN_le (n := 1000000) (by decide) c1).mp h)))⟩ (Nat.le_of_ble_eq_true rfl) (Nat.le_of_ble_eq_true rfl)
end
section
/-! a told long, a name: which are good -/
theorem cr_shr (t : Int64) (x : UInt64) (n : Nat) (hx : x.toNat % 64 = n) : (t.toUInt64 >>> x).toInt64 = 0 ↔ t.toBitVec.toNat < 2 ^ n := by
  rw [← Int64.toBitVec_inj, ← BitVec.toNat_inj]
  show (t.toUInt64 >>> x).toNat = 0 ↔ t.toUInt64.toNat < 2 ^ n
  rw [UInt64.toNat_shiftRight, hx, Nat.shiftRight_eq_div_pow]
  constructor
  · intro h
    have d : t.toUInt64.toNat / 2 ^ n < 1 := by
      rw [h]
      decide
    have e := (Nat.div_lt_iff_lt_mul (Nat.two_pow_pos n)).mp d
    rw [Nat.one_mul] at e
    exact e
  · exact Nat.div_eq_of_lt
def tN (x : Int64) : Nat := x.toBitVec.toNat
theorem tN_lN (x : Int64) : x = lN (tN x) := Int64.toBitVec_inj.mp (by
  show x.toBitVec = BitVec.ofNat 64 x.toBitVec.toNat
  simp)
theorem tN_i (x : Int64) : x.toInt32 = nI (tN x) := by
  rw [← lN_i, ← tN_lN]
def tOK (x : Int64) : Bool := decide (tN x < 2 ^ 30) && decide (tN x % 2 ^ 20 < 1000001) && decide (tN x / 2 ^ 23 % 128 < 100)
theorem inN_nat {j n : Nat} (hj : j < 2 ^ 31) (hn : n < 2 ^ 31) : inN (nI j) n = true ↔ j < n := by
  rw [inN_lt hn (nI_pos hj), nI_ltI hj hn]
theorem inN_natf {j n : Nat} (hj : j < 2 ^ 31) (hn : n < 2 ^ 31) : inN (nI j) n = false ↔ ¬ j < n := by
  rw [← inN_nat hj hn]; simp
def nOK (x : Int32) : Bool := inN x 2560 && decide (x.toNatClampNeg % 128 < 100)
theorem inN_shr (x : Int32) : inN (x >>> ((9 : Int32) &&& 31)) 5 = inN x 2560 := by
  have h := pk_shr x ((9 : Int32) &&& 31) 9 (by decide)
  have h2 : x.toInt >>> 9 = x.toInt / 512 := by rw [Int.shiftRight_eq_div_pow]; rfl
  rw [h2] at h
  unfold inN
  have z0 : (0 : Int32).toInt = 0 := by decide
  have e1 : (0 ≤ x >>> ((9 : Int32) &&& 31)) ↔ 0 ≤ x := by
    rw [Int32.le_iff_toInt_le, Int32.le_iff_toInt_le, h, z0]; omega
  have e2 : ((x >>> ((9 : Int32) &&& 31)).toInt < (5 : Nat)) ↔ x.toInt < (2560 : Nat) := by
    rw [h]; omega
  rw [decide_eq_decide.mpr e1, decide_eq_decide.mpr e2]
end
section
set_option maxHeartbeats 4000000 in
set_option maxRecDepth 100000 in
theorem cX3_needTold_x {l : Launch} {D : va_G} {cA : Nat → ClassId} {adr : Nat → Nat} {n : Nat} {E : Nat → va_E} {sa : Nat → Nat} {lo : Nat} (hls : l.stackTraces = false)  (x : Int64) : vx_Met l yX3_needTold (.code yX3_needTold cX3_needTold 2 none :: lw_G) ({ frames := 7, cells := 2, slots := 12, locals := 102 } : Room) (va_Pc [.long x] (wdX D (kty cA) sa lo adr n E)) (qR none (tOK x = true)) (xT (fun X => X = nIAE ∧ tOK x = false)) 2 12 (fun _ => False) := by
  refine vx_ofW (cc := cX3_needTold) (maxL := 2) (ret := none) (by decide) rfl ?_
  intro p e s m args below meth c s₁ B hml hno hv
  obtain ⟨rfl, hP, hN, hX⟩ := hv
  have hx := B.exec
  have hb := B.bytes
  have hr := B.returns
  have hG : ∀ w ∈ lw_G, w.before _ s = true := fun w h => atoms_spec (ws := _ :: lw_G) B.pre w (List.mem_cons_of_mem _ h)
  have hown : s.vm.findClass RX3 = some m.cls := findClass_of_methodNamed B.named
  have hlocks := B.notSynchronized
  have hK := hN.1
  have hl := lv_entry ([.long x]) (n := 2) (Nat.le_of_ble_eq_true rfl)
  rw [lg_entry_eq]
  generalize (lg_sl ([.long x]) ++ List.replicate (2 - (lg_sl ([.long x])).length) Slot.unset).toArray = ls at hl ⊢
  have hl : lv_has ls 2 [(0, .long x)] := hl
  refine lv_lload_n hx hb dX3_needTold_0 rfl (lv_at hl 0 rfl) ?_
  refine lv_bipush (v := 30) hx hb dX3_needTold_1 (by decide) ?_
  refine lv_lushr (v := (x.toUInt64 >>> ((30 : Int32).toInt64.toUInt64 &&& Int64.toUInt64 63)).toInt64) hx hb dX3_needTold_3 rfl ?_
  refine lv_lconst (v := 0) hx hb dX3_needTold_4 (by decide) ?_
  refine W.lcmp hx hb dX3_needTold_5 ?_
  refine lv_if_eq (tgt := 19) hx hb dX3_needTold_6 (by decide) (fun c6 => ?_) (fun c6 => ?_)
  · have n6 : tN x < 2 ^ 30 := (cr_shr x _ 30 (by decide)).mp ((lg_cmp_eq _ _).mp c6)
    refine lv_lload_n hx hb dX3_needTold_19 rfl (lv_at hl 0 rfl) ?_
    refine lv_l2i (v := x.toInt32) hx hb dX3_needTold_20 rfl ?_
    refine lv_topi (fun y9 e9 => ?_)
    have e9 : y9 = nI (tN x) := e9.trans (tN_i x)
    subst e9
    refine wn_rS (rest := []) hx hb hml hown hG (cX3_timeIn_r _) (cwS 1 hG (gS g_274 g_275 g_1 g_276) rfl rfl rfl (by decide +kernel) ⟨Nat.le_of_ble_eq_true rfl, Nat.le_of_ble_eq_true rfl⟩) rfl hl.1 rfl (Nat.le_of_ble_eq_true rfl) dX3_needTold_21 ⟨Nat.le_of_ble_eq_true rfl, Nat.le_of_ble_eq_true rfl⟩ ?_
    refine lv_topi (fun y9 e9 => ?_)
    have e9 : y9 = nI (tN x % 2 ^ 20) := e9.trans (pk_andN (by omega) 20 (by decide))
    subst e9
    refine wx_S (rest := []) hx hb hml hown hG hN hX hP (cX3_needTime_x hls _) (cwS 1 hG (gS g_210 g_211 g_1 g_212) rfl rfl rfl (by decide +kernel) ⟨(Nat.le_of_ble_eq_true rfl), (Nat.le_of_ble_eq_true rfl)⟩) rfl hl.1 rfl (Nat.le_of_ble_eq_true rfl) dX3_needTold_24 ⟨(Nat.le_of_ble_eq_true rfl), (Nat.le_of_ble_eq_true rfl)⟩ hno hlocks (Nat.le_of_ble_eq_true rfl) (Nat.le_of_ble_eq_true rfl) (fun X h => ⟨h.1, by unfold tOK; rw [decide_eq_false ((inN_natf (by omega) (by decide)).mp h.2), Bool.and_false]; rfl⟩) (fun hC => ?_)
    have hC := (inN_nat (by omega) (by decide)).mp hC
    refine lv_lload_n hx hb dX3_needTold_27 rfl (lv_at hl 0 rfl) ?_
    refine lv_l2i (v := x.toInt32) hx hb dX3_needTold_28 rfl ?_
    refine lv_topi (fun y9 e9 => ?_)
    have e9 : y9 = nI (tN x) := e9.trans (tN_i x)
    subst e9
    refine wn_rS (rest := []) hx hb hml hown hG (cX3_numberIn_r _) (cwS 1 hG (gS g_280 g_281 g_1 g_282) rfl rfl rfl (by decide +kernel) ⟨Nat.le_of_ble_eq_true rfl, Nat.le_of_ble_eq_true rfl⟩) rfl hl.1 rfl (Nat.le_of_ble_eq_true rfl) dX3_needTold_29 ⟨Nat.le_of_ble_eq_true rfl, Nat.le_of_ble_eq_true rfl⟩ ?_
    refine lv_topi (fun y9 e9 => ?_)
    have e9 : y9 = nI (tN x / 2 ^ 23 % 128) := e9.trans (by rw [pk_shrN (by omega) _ 23 (by decide), pk_andN (by omega) 7 (by decide)])
    subst e9
    refine lv_bipush (v := 100) hx hb dX3_needTold_32 (by decide) ?_
    refine lv_icmp_lt (tgt := 47) hx hb dX3_needTold_34 (by decide) (fun c34 => ?_) (fun c34 => ?_)
    · have n34 : (tN x / 2 ^ 23 % 128) < 100 := (nI_ltI (a := (tN x / 2 ^ 23 % 128)) (b := 100) (by omega) (by omega)).mp c34
      refine W.widen (k := 2) (n := 12) (Nat.le_of_ble_eq_true rfl) (Nat.le_of_ble_eq_true rfl) ?_
      exact vx_ret (W.vret hx hb hr (fun t ht _ => ⟨rfl, by unfold tOK; rw [decide_eq_true n6, decide_eq_true hC, decide_eq_true n34]; rfl, ht⟩) (fun _ h => nomatch h) dX3_needTold_47)
    · have n34 : ¬ (tN x / 2 ^ 23 % 128) < 100 := fun h => c34 ((nI_ltI (a := (tN x / 2 ^ 23 % 128)) (b := 100) (by omega) (by omega)).mpr h)
      exact th_IAE hx hb hls hown hG hN hX (hl.1.trans hml.symm) 6 rfl dX3_needTold_37 dX3_needTold_40 dX3_needTold_41 dX3_needTold_43 dX3_needTold_46 hno (Nat.le_of_ble_eq_true rfl) (Nat.le_of_ble_eq_true rfl) (Nat.le_of_ble_eq_true rfl) (Nat.le_of_ble_eq_true rfl) hlocks ⟨rfl, by unfold tOK; rw [decide_eq_false n34, Bool.and_false]⟩ (Nat.le_of_ble_eq_true rfl) (Nat.le_of_ble_eq_true rfl)
  · exact th_IAE hx hb hls hown hG hN hX (hl.1.trans hml.symm) 5 rfl dX3_needTold_9 dX3_needTold_12 dX3_needTold_13 dX3_needTold_15 dX3_needTold_18 hno (Nat.le_of_ble_eq_true rfl) (Nat.le_of_ble_eq_true rfl) (Nat.le_of_ble_eq_true rfl) (Nat.le_of_ble_eq_true rfl) hlocks ⟨rfl, by unfold tOK; rw [decide_eq_false (show ¬ tN x < 2 ^ 30 from fun h => c6 ((lg_cmp_eq _ _).mpr ((cr_shr x _ 30 (by decide)).mpr h)))]; rfl⟩ (Nat.le_of_ble_eq_true rfl) (Nat.le_of_ble_eq_true rfl)

set_option maxHeartbeats 4000000 in
set_option maxRecDepth 100000 in
theorem cX3_needName_x {l : Launch} {D : va_G} {cA : Nat → ClassId} {adr : Nat → Nat} {n : Nat} {E : Nat → va_E} {sa : Nat → Nat} {lo : Nat} (hls : l.stackTraces = false)  (x : Int32) : vx_Met l yX3_needName (.code yX3_needName cX3_needName 1 none :: lw_G) ({ frames := 7, cells := 2, slots := 12, locals := 102 } : Room) (va_Pc [.int x] (wdX D (kty cA) sa lo adr n E)) (qR none (nOK x = true)) (xT (fun X => X = nIOB ∧ nOK x = false)) 2 12 (fun _ => False) := by
  refine vx_ofW (cc := cX3_needName) (maxL := 1) (ret := none) (by decide) rfl ?_
  intro p e s m args below meth c s₁ B hml hno hv
  obtain ⟨rfl, hP, hN, hX⟩ := hv
  have hx := B.exec
  have hb := B.bytes
  have hr := B.returns
  have hG : ∀ w ∈ lw_G, w.before _ s = true := fun w h => atoms_spec (ws := _ :: lw_G) B.pre w (List.mem_cons_of_mem _ h)
  have hown : s.vm.findClass RX3 = some m.cls := findClass_of_methodNamed B.named
  have hlocks := B.notSynchronized
  have hK := hN.1
  have hl := lv_entry ([.int x]) (n := 1) (Nat.le_of_ble_eq_true rfl)
  rw [lg_entry_eq]
  generalize (lg_sl ([.int x]) ++ List.replicate (1 - (lg_sl ([.int x])).length) Slot.unset).toArray = ls at hl ⊢
  have hl : lv_has ls 1 [(0, .int x)] := hl
  refine lv_iload_n hx hb dX3_needName_0 rfl (lv_at hl 0 rfl) ?_
  refine lv_bipush (v := 9) hx hb dX3_needName_1 (by decide) ?_
  refine lv_ishr hx hb dX3_needName_3 ?_
  refine wx_S (rest := []) hx hb hml hown hG hN hX hP (cX3_needTeller_x hls _) (cwS 1 hG (gS g_122 g_123 g_1 g_124) rfl rfl rfl (by decide +kernel) ⟨(Nat.le_of_ble_eq_true rfl), (Nat.le_of_ble_eq_true rfl)⟩) rfl hl.1 rfl (Nat.le_of_ble_eq_true rfl) dX3_needName_4 ⟨(Nat.le_of_ble_eq_true rfl), (Nat.le_of_ble_eq_true rfl)⟩ hno hlocks (Nat.le_of_ble_eq_true rfl) (Nat.le_of_ble_eq_true rfl) (fun X h => ⟨h.1, by unfold nOK; rw [← inN_shr, h.2]; rfl⟩) (fun hC => ?_)
  rw [inN_shr] at hC
  obtain ⟨a, ha, rfl⟩ := inN_of hC (by decide)
  refine lv_iload_n hx hb dX3_needName_7 rfl (lv_at hl 0 rfl) ?_
  refine lv_bipush (v := 7) hx hb dX3_needName_8 (by decide) ?_
  refine wn_rS (rest := []) hx hb hml hown hG (cX3_lowBits_r _ _) (cwS 2 hG (gS g_277 g_278 g_1 g_279) rfl rfl rfl (by decide +kernel) ⟨Nat.le_of_ble_eq_true rfl, Nat.le_of_ble_eq_true rfl⟩) rfl hl.1 rfl (Nat.le_of_ble_eq_true rfl) dX3_needName_10 ⟨Nat.le_of_ble_eq_true rfl, Nat.le_of_ble_eq_true rfl⟩ ?_
  refine lv_topi (fun y9 e9 => ?_)
  have e9 : y9 = nI (a % 128) := e9.trans (by rw [show ((1 : Int32) <<< ((7 : Int32) &&& 31)) - 1 = 127 from by decide, pk_andN (by omega) 7 (by decide)])
  subst e9
  refine lv_bipush (v := 100) hx hb dX3_needName_13 (by decide) ?_
  refine lv_icmp_lt (tgt := 28) hx hb dX3_needName_15 (by decide) (fun c15 => ?_) (fun c15 => ?_)
  · have n15 : (a % 128) < 100 := (nI_ltI (a := (a % 128)) (b := 100) (by omega) (by omega)).mp c15
    refine W.widen (k := 2) (n := 12) (Nat.le_of_ble_eq_true rfl) (Nat.le_of_ble_eq_true rfl) ?_
    exact vx_ret (W.vret hx hb hr (fun t ht _ => ⟨rfl, by unfold nOK; rw [hC, nI_clamp (by omega), decide_eq_true n15]; rfl, ht⟩) (fun _ h => nomatch h) dX3_needName_28)
  · have n15 : ¬ (a % 128) < 100 := fun h => c15 ((nI_ltI (a := (a % 128)) (b := 100) (by omega) (by omega)).mpr h)
    exact th_IOB hx hb hls hown hG hN hX (hl.1.trans hml.symm) 6 rfl dX3_needName_18 dX3_needName_21 dX3_needName_22 dX3_needName_24 dX3_needName_27 hno (Nat.le_of_ble_eq_true rfl) (Nat.le_of_ble_eq_true rfl) (Nat.le_of_ble_eq_true rfl) (Nat.le_of_ble_eq_true rfl) hlocks ⟨rfl, by unfold nOK; rw [nI_clamp (by omega), decide_eq_false n15, Bool.and_false]⟩ (Nat.le_of_ble_eq_true rfl) (Nat.le_of_ble_eq_true rfl)
end
section
/-! WHAT THE PUBLIC METHODS ANSWER: k_.. 0 or which exception (as the law counts them), r_.. the answer -/
def k_real (_S : CS) (t x : Int32) : Nat := if inN t 5 then (if inN x 1000001 then 0 else 2) else 1
def r_real (S : CS) (t x : Int32) : Int32 := rt (c_mk S t.toNatClampNeg) (c_ow S t.toNatClampNeg) (c_re S t.toNatClampNeg) x
def k_many (_S : CS) (d w : Int32) : Nat := if inN d 3 && inN w 3 then 0 else 1
def r_many (S : CS) (d w : Int32) : Int32 := if w = 0 then c_sn S d.toNatClampNeg else if w = 1 then c_mt S d.toNatClampNeg else c_wt S d.toNatClampNeg
def k_same (_S : CS) (d o : Int32) : Nat := if inN d 3 && inN o 3 then 0 else 1
def r_same (S : CS) (d o : Int32) : Bool := alB (fun i => c_see S d.toNatClampNeg i == c_see S o.toNatClampNeg i) (c_ct S)
def k_conf (_S : CS) (d : Int32) : Nat := if inN d 3 then 0 else 1
def r_conf (S : CS) (d : Int32) : Int32 := nI (ctB (fun i => c_see S d.toNatClampNeg i && c_beg S d.toNatClampNeg i) (c_ct S))
def k_last (S : CS) (d k w : Int32) : Nat := if inN d 3 && inN k 8 && inN w 5 then (if c_lst S d.toNatClampNeg k.toNatClampNeg (c_mt S d.toNatClampNeg) = none then 2 else 0) else 1
def a_last (S : CS) (i : Nat) (w : Int32) : Int32 := if w = 0 then c_vl S i else if w = 1 then c_rt S i else if w = 2 then nI (c_nm S i / 512) else if w = 3 then nI (c_nm S i % 128) else nI (c_nm S i / 128 % 4)
def r_last (S : CS) (d k w : Int32) : Int32 := a_last S ((c_lst S d.toNatClampNeg k.toNatClampNeg (c_mt S d.toNatClampNeg)).getD 0) w
def k_known (S : CS) (d k m : Int32) : Nat := if inN d 3 && inN k 8 then (if decide (0 ≤ m) && decide (m ≤ c_mt S d.toNatClampNeg) then (if c_lst S d.toNatClampNeg k.toNatClampNeg m = none then 2 else 0) else 3) else 1
def r_known (S : CS) (d k m : Int32) : Int32 := c_vl S ((c_lst S d.toNatClampNeg k.toNatClampNeg m).getD 0)
theorem lst_lt {S : CS} {d k : Nat} {m : Int32} {z : Nat} (h : c_lst S d k m = some z) : z < c_ct S := lsB_lt h
theorem oI_ne {o : Option Nat} (h : ¬ oI o = -1) : ∃ z, o = some z := by
  cases o with
  | none => exact absurd rfl h
  | some z => exact ⟨z, rfl⟩
end
section
theorem bI_inj {a b : Bool} (h : bI a = bI b) : a = b := by cases a <;> cases b <;> first | rfl | exact absurd h (by decide)
set_option maxHeartbeats 4000000 in
set_option maxRecDepth 100000 in
theorem cX3_real_x {l : Launch} {D : va_G} {cA : Nat → ClassId} {adr : Nat → Nat} {n : Nat} {E : Nat → va_E} {sa : Nat → Nat} {lo : Nat} (hls : l.stackTraces = false)  {S : CS} (hn : 30 ≤ n) (hR : Rep cA adr S E) (tt x : Int32) : vx_Met l yX3_real (.code yX3_real cX3_real 3 (some .int) :: lw_G) ({ frames := 7, cells := 2, slots := 12, locals := 102 } : Room) (va_Pc [.ref (adr 0), .int tt, .int x] (wdX D (kty cA) sa lo adr n E)) (qR (some (.int (r_real S tt x))) (k_real S tt x = 0)) (xT (fun X => (k_real S tt x = 1 ∧ X = nIOB) ∨ (k_real S tt x = 2 ∧ X = nIAE))) 2 12 (fun _ => False) := by
  refine vx_ofW (cc := cX3_real) (maxL := 3) (ret := (some .int)) (by decide) rfl ?_
  intro p e s m args below meth c s₁ B hml hno hv
  obtain ⟨rfl, hP, hN, hX⟩ := hv
  have hx := B.exec
  have hb := B.bytes
  have hr := B.returns
  have hG : ∀ w ∈ lw_G, w.before _ s = true := fun w h => atoms_spec (ws := _ :: lw_G) B.pre w (List.mem_cons_of_mem _ h)
  have hown : s.vm.findClass RX3 = some m.cls := findClass_of_methodNamed B.named
  have hlocks := B.notSynchronized
  have hK := hN.1
  have hl := lv_entry ([.ref (adr 0), .int tt, .int x]) (n := 3) (Nat.le_of_ble_eq_true rfl)
  rw [lg_entry_eq]
  generalize (lg_sl ([.ref (adr 0), .int tt, .int x]) ++ List.replicate (3 - (lg_sl ([.ref (adr 0), .int tt, .int x])).length) Slot.unset).toArray = ls at hl ⊢
  have hl : lv_has ls 3 [(0, .ref (adr 0)), (1, .int tt), (2, .int x)] := hl
  obtain ⟨hE0, hE1, hE2, hK0, hK1, hK2, hK3, hK4, ⟨hdv, hE8⟩, hDk, hTl, hct, hnm, htd, hmk, hlf⟩ := id hR
  refine lv_iload_n hx hb dX3_real_0 rfl (lv_at hl 1 rfl) ?_
  refine wx_S (rest := []) hx hb hml hown hG hN hX hP (cX3_needTeller_x hls _) (cwS 1 hG (gS g_122 g_123 g_1 g_124) rfl rfl rfl (by decide +kernel) ⟨(Nat.le_of_ble_eq_true rfl), (Nat.le_of_ble_eq_true rfl)⟩) rfl hl.1 rfl (Nat.le_of_ble_eq_true rfl) dX3_real_1 ⟨(Nat.le_of_ble_eq_true rfl), (Nat.le_of_ble_eq_true rfl)⟩ hno hlocks (Nat.le_of_ble_eq_true rfl) (Nat.le_of_ble_eq_true rfl) (fun X h => Or.inl ⟨by unfold k_real; rw [h.2]; rfl, h.1⟩) (fun hC => ?_)
  have hT := hC
  obtain ⟨t, ht, rfl⟩ := inN_of hC (by decide)
  obtain ⟨hT0, hT1, hT2⟩ := hTl t ht
  refine lv_iload_n hx hb dX3_real_4 rfl (lv_at hl 2 rfl) ?_
  refine wx_S (rest := []) hx hb hml hown hG hN hX hP (cX3_needTime_x hls _) (cwS 1 hG (gS g_210 g_211 g_1 g_212) rfl rfl rfl (by decide +kernel) ⟨(Nat.le_of_ble_eq_true rfl), (Nat.le_of_ble_eq_true rfl)⟩) rfl hl.1 rfl (Nat.le_of_ble_eq_true rfl) dX3_real_5 ⟨(Nat.le_of_ble_eq_true rfl), (Nat.le_of_ble_eq_true rfl)⟩ hno hlocks (Nat.le_of_ble_eq_true rfl) (Nat.le_of_ble_eq_true rfl) (fun X h => Or.inr ⟨by unfold k_real; rw [hT, h.2]; rfl, h.1⟩) (fun hC => ?_)
  have hM := hC
  refine lv_aload_n hx hb dX3_real_8 rfl (lv_at hl 0 rfl) ?_
  refine va_get (D := D) (ci := 3) (v := .ref (adr 1)) (C := RX3) (T := TX3) (N := 4) hx hb hG inG_X3 hown hK hP 0 (wl_at (by omega) hE0) rfl 0 (by decide) (hG _ g_99) (fun _ h9 => h9) rfl dX3_real_9 ?_
  refine lv_iload_n hx hb dX3_real_12 rfl (lv_at hl 1 rfl) ?_
  refine wn_ald (j := t) (g := fun j => 15 + 3 * j) hx hb hK hP 2 (by omega) hE1 rfl (by omega) (by decide) dX3_real_13 ?_
  refine lv_iload_n hx hb dX3_real_14 rfl (lv_at hl 2 rfl) ?_
  refine wn_rV (rest := []) hx hb hml hown hG hN hP (cX1_realTime_r (by omega) (hmk _ ht) hT0 hT1 hT2 _) (cwV 1 hG (gV g_246 g_247 g_248 g_3 g_249) rfl rfl rfl (by decide +kernel) ⟨Nat.le_of_ble_eq_true rfl, Nat.le_of_ble_eq_true rfl⟩) (by omega) hT0 rfl rfl hl.1 rfl (Nat.le_of_ble_eq_true rfl) dX3_real_15 ⟨Nat.le_of_ble_eq_true rfl, Nat.le_of_ble_eq_true rfl⟩ ?_
  refine W.widen (k := 2) (n := 12) (Nat.le_of_ble_eq_true rfl) (Nat.le_of_ble_eq_true rfl) ?_
  exact vx_ret (W.iret (v := rt (c_mk S t) (c_ow S t) (c_re S t) x) hx hb hr (fun t ht _ => ⟨congrArg (fun z => Outcome.returned (some (Value.int z))) (by unfold r_real; rw [nI_clamp (by omega)]), by unfold k_real; rw [hT, hM]; rfl, ht⟩) (fun _ h => nomatch h) dX3_real_18)

set_option maxHeartbeats 4000000 in
set_option maxRecDepth 100000 in
theorem cX3_many_x {l : Launch} {D : va_G} {cA : Nat → ClassId} {adr : Nat → Nat} {n : Nat} {E : Nat → va_E} {sa : Nat → Nat} {lo : Nat} (hls : l.stackTraces = false)  {S : CS} (hn : 30 ≤ n) (hR : Rep cA adr S E) (dd ww : Int32) : vx_Met l yX3_many (.code yX3_many cX3_many 4 (some .int) :: lw_G) ({ frames := 7, cells := 2, slots := 12, locals := 102 } : Room) (va_Pc [.ref (adr 0), .int dd, .int ww] (wdX D (kty cA) sa lo adr n E)) (qR (some (.int (r_many S dd ww))) (k_many S dd ww = 0)) (xT (fun X => k_many S dd ww = 1 ∧ X = nIOB)) 2 12 (fun _ => False) := by
  refine vx_ofW (cc := cX3_many) (maxL := 4) (ret := (some .int)) (by decide) rfl ?_
  intro p e s m args below meth c s₁ B hml hno hv
  obtain ⟨rfl, hP, hN, hX⟩ := hv
  have hx := B.exec
  have hb := B.bytes
  have hr := B.returns
  have hG : ∀ w ∈ lw_G, w.before _ s = true := fun w h => atoms_spec (ws := _ :: lw_G) B.pre w (List.mem_cons_of_mem _ h)
  have hown : s.vm.findClass RX3 = some m.cls := findClass_of_methodNamed B.named
  have hlocks := B.notSynchronized
  have hK := hN.1
  have hl := lv_entry ([.ref (adr 0), .int dd, .int ww]) (n := 4) (Nat.le_of_ble_eq_true rfl)
  rw [lg_entry_eq]
  generalize (lg_sl ([.ref (adr 0), .int dd, .int ww]) ++ List.replicate (4 - (lg_sl ([.ref (adr 0), .int dd, .int ww])).length) Slot.unset).toArray = ls at hl ⊢
  have hl : lv_has ls 4 [(0, .ref (adr 0)), (1, .int dd), (2, .int ww)] := hl
  obtain ⟨hE0, hE1, hE2, hK0, hK1, hK2, hK3, hK4, ⟨hdv, hE8⟩, hDk, hTl, hct, hnm, htd, hmk, hlf⟩ := id hR
  refine lv_iload_n hx hb dX3_many_0 rfl (lv_at hl 1 rfl) ?_
  refine wx_S (rest := []) hx hb hml hown hG hN hX hP (cX3_needDesk_x hls _) (cwS 1 hG (gS g_266 g_267 g_1 g_268) rfl rfl rfl (by decide +kernel) ⟨(Nat.le_of_ble_eq_true rfl), (Nat.le_of_ble_eq_true rfl)⟩) rfl hl.1 rfl (Nat.le_of_ble_eq_true rfl) dX3_many_1 ⟨(Nat.le_of_ble_eq_true rfl), (Nat.le_of_ble_eq_true rfl)⟩ hno hlocks (Nat.le_of_ble_eq_true rfl) (Nat.le_of_ble_eq_true rfl) (fun X h => ⟨by unfold k_many; rw [h.2]; rfl, h.1⟩) (fun hC => ?_)
  have hD := hC
  obtain ⟨d, hd, rfl⟩ := inN_of hC (by decide)
  obtain ⟨hD0, hD1⟩ := hDk d hd
  refine lv_iload_n hx hb dX3_many_4 rfl (lv_at hl 2 rfl) ?_
  refine lv_if_lt (tgt := 13) hx hb dX3_many_5 (by decide) (fun c5 => ?_) (fun c5 => ?_)
  · exact th_IOB hx hb hls hown hG hN hX (hl.1.trans hml.symm) 14 rfl dX3_many_13 dX3_many_16 dX3_many_17 dX3_many_19 dX3_many_22 hno (Nat.le_of_ble_eq_true rfl) (Nat.le_of_ble_eq_true rfl) (Nat.le_of_ble_eq_true rfl) (Nat.le_of_ble_eq_true rfl) hlocks ⟨by unfold k_many; rw [(show inN ww 3 = false from by first | exact inN_neg c5 | exact Bool.eq_false_iff.mpr (fun h => c10 ((inN_le (n := 2) (by decide) c5).mp h))), Bool.and_false]; rfl, rfl⟩ (Nat.le_of_ble_eq_true rfl) (Nat.le_of_ble_eq_true rfl)
  · refine lv_iload_n hx hb dX3_many_8 rfl (lv_at hl 2 rfl) ?_
    refine lv_iconst (v := 2) hx hb dX3_many_9 (by decide) ?_
    refine lv_icmp_le (tgt := 23) hx hb dX3_many_10 (by decide) (fun c10 => ?_) (fun c10 => ?_)
    · have hW : inN ww 3 = true := (inN_le (n := 2) (by decide) c5).mpr c10
      refine lv_aload_n hx hb dX3_many_23 rfl (lv_at hl 0 rfl) ?_
      refine va_get (D := D) (ci := 3) (v := .ref (adr 2)) (C := RX3) (T := TX3) (N := 4) hx hb hG inG_X3 hown hK hP 0 (wl_at (by omega) hE0) rfl 1 (by decide) (hG _ g_100) (fun _ h9 => h9) rfl dX3_many_24 ?_
      refine lv_iload_n hx hb dX3_many_27 rfl (lv_at hl 1 rfl) ?_
      refine wn_ald (j := d) (g := fun j => 9 + 2 * j) hx hb hK hP 3 (by omega) hE2 rfl (by omega) (by decide) dX3_many_28 ?_
      refine lv_astore_n (lv' := [(3, .ref (adr (9 + 2 * d))), (0, .ref (adr 0)), (1, .int (nI d)), (2, .int ww)]) hx hb dX3_many_29 rfl hl (by decide) rfl (fun ls hl => ?_)
      refine lv_iload_n hx hb dX3_many_30 rfl (lv_at hl 3 rfl) ?_
      obtain ⟨j, hj, rfl⟩ := inN_of hW (by decide)
      rcases (show j = 0 ∨ j = 1 ∨ j = 2 by omega) with rfl | rfl | rfl
      · refine lv_lookup (off := 25) (tgt := 56) hx hb dX3_many_31 (by decide) (by decide) (by decide) ?_
        refine lv_aload_n hx hb dX3_many_56 rfl (lv_at hl 0 rfl) ?_
        refine va_get (D := D) (ci := 0) (v := .int (c_sn S d)) (C := RX0) (T := TX0) (N := 5) hx hb hG inG_X0 hown hK hP (9 + 2 * d) (wl_at (by omega) hD0) rfl 2 (by decide) (hG _ g_83) (fun _ h9 => h9) rfl dX3_many_57 ?_
        refine W.widen (k := 2) (n := 12) (Nat.le_of_ble_eq_true rfl) (Nat.le_of_ble_eq_true rfl) ?_
        exact vx_ret (W.iret (v := c_sn S d) hx hb hr (fun t ht _ => ⟨congrArg (fun z => Outcome.returned (some (Value.int z))) (by unfold r_many; rw [nI_clamp (by omega)]; rfl), by unfold k_many; rw [hD, hW]; rfl, ht⟩) (fun _ h => nomatch h) dX3_many_60)
      · refine lv_lookup (off := 30) (tgt := 61) hx hb dX3_many_31 (by decide) (by decide) (by decide) ?_
        refine lv_aload_n hx hb dX3_many_61 rfl (lv_at hl 0 rfl) ?_
        refine va_get (D := D) (ci := 0) (v := .int (c_mt S d)) (C := RX0) (T := TX0) (N := 5) hx hb hG inG_X0 hown hK hP (9 + 2 * d) (wl_at (by omega) hD0) rfl 1 (by decide) (hG _ g_81) (fun _ h9 => h9) rfl dX3_many_62 ?_
        refine W.widen (k := 2) (n := 12) (Nat.le_of_ble_eq_true rfl) (Nat.le_of_ble_eq_true rfl) ?_
        exact vx_ret (W.iret (v := c_mt S d) hx hb hr (fun t ht _ => ⟨congrArg (fun z => Outcome.returned (some (Value.int z))) (by unfold r_many; rw [nI_clamp (by omega)]; rfl), by unfold k_many; rw [hD, hW]; rfl, ht⟩) (fun _ h => nomatch h) dX3_many_65)
      · refine lv_lookup (off := 35) (tgt := 66) hx hb dX3_many_31 (by decide) (by decide) (by decide) ?_
        refine lv_aload_n hx hb dX3_many_66 rfl (lv_at hl 0 rfl) ?_
        refine va_get (D := D) (ci := 0) (v := .int (c_wt S d)) (C := RX0) (T := TX0) (N := 5) hx hb hG inG_X0 hown hK hP (9 + 2 * d) (wl_at (by omega) hD0) rfl 3 (by decide) (hG _ g_85) (fun _ h9 => h9) rfl dX3_many_67 ?_
        refine W.widen (k := 2) (n := 12) (Nat.le_of_ble_eq_true rfl) (Nat.le_of_ble_eq_true rfl) ?_
        exact vx_ret (W.iret (v := c_wt S d) hx hb hr (fun t ht _ => ⟨congrArg (fun z => Outcome.returned (some (Value.int z))) (by unfold r_many; rw [nI_clamp (by omega)]; rfl), by unfold k_many; rw [hD, hW]; rfl, ht⟩) (fun _ h => nomatch h) dX3_many_70)
    · exact th_IOB hx hb hls hown hG hN hX (hl.1.trans hml.symm) 14 rfl dX3_many_13 dX3_many_16 dX3_many_17 dX3_many_19 dX3_many_22 hno (Nat.le_of_ble_eq_true rfl) (Nat.le_of_ble_eq_true rfl) (Nat.le_of_ble_eq_true rfl) (Nat.le_of_ble_eq_true rfl) hlocks ⟨by unfold k_many; rw [(show inN ww 3 = false from by first | exact inN_neg c5 | exact Bool.eq_false_iff.mpr (fun h => c10 ((inN_le (n := 2) (by decide) c5).mp h))), Bool.and_false]; rfl, rfl⟩ (Nat.le_of_ble_eq_true rfl) (Nat.le_of_ble_eq_true rfl)

set_option maxHeartbeats 4000000 in
set_option maxRecDepth 100000 in
theorem cX3_same_x {l : Launch} {D : va_G} {cA : Nat → ClassId} {adr : Nat → Nat} {n : Nat} {E : Nat → va_E} {sa : Nat → Nat} {lo : Nat} (hls : l.stackTraces = false)  {S : CS} (hn : 30 ≤ n) (hR : Rep cA adr S E) (dd oo : Int32) : vx_Met l yX3_same (.code yX3_same cX3_same 6 (some .boolean) :: lw_G) ({ frames := 7, cells := 2, slots := 12, locals := 102 } : Room) (va_Pc [.ref (adr 0), .int dd, .int oo] (wdX D (kty cA) sa lo adr n E)) (qR (some (.int (bI (r_same S dd oo)))) (k_same S dd oo = 0)) (xT (fun X => k_same S dd oo = 1 ∧ X = nIOB)) 2 12 (fun _ => False) := by
  refine vx_ofW (cc := cX3_same) (maxL := 6) (ret := (some .boolean)) (by decide) rfl ?_
  intro p e s m args below meth c s₁ B hml hno hv
  obtain ⟨rfl, hP, hN, hX⟩ := hv
  have hx := B.exec
  have hb := B.bytes
  have hr := B.returns
  have hG : ∀ w ∈ lw_G, w.before _ s = true := fun w h => atoms_spec (ws := _ :: lw_G) B.pre w (List.mem_cons_of_mem _ h)
  have hown : s.vm.findClass RX3 = some m.cls := findClass_of_methodNamed B.named
  have hlocks := B.notSynchronized
  have hK := hN.1
  have hl := lv_entry ([.ref (adr 0), .int dd, .int oo]) (n := 6) (Nat.le_of_ble_eq_true rfl)
  rw [lg_entry_eq]
  generalize (lg_sl ([.ref (adr 0), .int dd, .int oo]) ++ List.replicate (6 - (lg_sl ([.ref (adr 0), .int dd, .int oo])).length) Slot.unset).toArray = ls at hl ⊢
  have hl : lv_has ls 6 [(0, .ref (adr 0)), (1, .int dd), (2, .int oo)] := hl
  obtain ⟨hE0, hE1, hE2, hK0, hK1, hK2, hK3, hK4, ⟨hdv, hE8⟩, hDk, hTl, hct, hnm, htd, hmk, hlf⟩ := id hR
  refine lv_iload_n hx hb dX3_same_0 rfl (lv_at hl 1 rfl) ?_
  refine wx_S (rest := []) hx hb hml hown hG hN hX hP (cX3_needDesk_x hls _) (cwS 1 hG (gS g_266 g_267 g_1 g_268) rfl rfl rfl (by decide +kernel) ⟨(Nat.le_of_ble_eq_true rfl), (Nat.le_of_ble_eq_true rfl)⟩) rfl hl.1 rfl (Nat.le_of_ble_eq_true rfl) dX3_same_1 ⟨(Nat.le_of_ble_eq_true rfl), (Nat.le_of_ble_eq_true rfl)⟩ hno hlocks (Nat.le_of_ble_eq_true rfl) (Nat.le_of_ble_eq_true rfl) (fun X h => ⟨by unfold k_same; rw [h.2]; rfl, h.1⟩) (fun hC => ?_)
  have hD := hC
  obtain ⟨d, hd, rfl⟩ := inN_of hC (by decide)
  obtain ⟨hD0, hD1⟩ := hDk d hd
  refine lv_iload_n hx hb dX3_same_4 rfl (lv_at hl 2 rfl) ?_
  refine wx_S (rest := []) hx hb hml hown hG hN hX hP (cX3_needDesk_x hls _) (cwS 1 hG (gS g_266 g_267 g_1 g_268) rfl rfl rfl (by decide +kernel) ⟨(Nat.le_of_ble_eq_true rfl), (Nat.le_of_ble_eq_true rfl)⟩) rfl hl.1 rfl (Nat.le_of_ble_eq_true rfl) dX3_same_5 ⟨(Nat.le_of_ble_eq_true rfl), (Nat.le_of_ble_eq_true rfl)⟩ hno hlocks (Nat.le_of_ble_eq_true rfl) (Nat.le_of_ble_eq_true rfl) (fun X h => ⟨by unfold k_same; rw [h.2, Bool.and_false]; rfl, h.1⟩) (fun hC => ?_)
  have hO := hC
  obtain ⟨o, ho, rfl⟩ := inN_of hC (by decide)
  obtain ⟨hO0, hO1⟩ := hDk o ho
  refine lv_aload_n hx hb dX3_same_8 rfl (lv_at hl 0 rfl) ?_
  refine va_get (D := D) (ci := 3) (v := .ref (adr 2)) (C := RX3) (T := TX3) (N := 4) hx hb hG inG_X3 hown hK hP 0 (wl_at (by omega) hE0) rfl 1 (by decide) (hG _ g_100) (fun _ h9 => h9) rfl dX3_same_9 ?_
  refine lv_iload_n hx hb dX3_same_12 rfl (lv_at hl 1 rfl) ?_
  refine wn_ald (j := d) (g := fun j => 9 + 2 * j) hx hb hK hP 3 (by omega) hE2 rfl (by omega) (by decide) dX3_same_13 ?_
  refine lv_astore_n (lv' := [(3, .ref (adr (9 + 2 * d))), (0, .ref (adr 0)), (1, .int (nI d)), (2, .int (nI o))]) hx hb dX3_same_14 rfl hl (by decide) rfl (fun ls hl => ?_)
  refine lv_aload_n hx hb dX3_same_15 rfl (lv_at hl 1 rfl) ?_
  refine va_get (D := D) (ci := 3) (v := .ref (adr 2)) (C := RX3) (T := TX3) (N := 4) hx hb hG inG_X3 hown hK hP 0 (wl_at (by omega) hE0) rfl 1 (by decide) (hG _ g_100) (fun _ h9 => h9) rfl dX3_same_16 ?_
  refine lv_iload_n hx hb dX3_same_19 rfl (lv_at hl 3 rfl) ?_
  refine wn_ald (j := o) (g := fun j => 9 + 2 * j) hx hb hK hP 3 (by omega) hE2 rfl (by omega) (by decide) dX3_same_20 ?_
  refine lv_astore (lv' := [(4, .ref (adr (9 + 2 * o))), (3, .ref (adr (9 + 2 * d))), (0, .ref (adr 0)), (1, .int (nI d)), (2, .int (nI o))]) hx hb dX3_same_21 hl (by decide) rfl (fun ls hl => ?_)
  refine lv_iconst (v := 0) hx hb dX3_same_23 (by decide) ?_
  refine lv_istore (lv' := [(5, .int 0), (4, .ref (adr (9 + 2 * o))), (3, .ref (adr (9 + 2 * d))), (0, .ref (adr 0)), (1, .int (nI d)), (2, .int (nI o))]) hx hb dX3_same_24 hl (by decide) rfl (fun ls hl => ?_)
  have L26 : ∀ (f : Nat) (i : Nat), c_ct S - i < f → i ≤ c_ct S → alB (fun i => c_see S d i == c_see S o i) i = true → ∀ ls : Array Slot, lv_has ls 6 [(5, .int (nI i)), (0, .ref (adr 0)), (3, .ref (adr (9 + 2 * d))), (4, .ref (adr (9 + 2 * o))), (1, .int (nI d)), (2, .int (nI o))] → W p l e (headSpec (.code yX3_same cX3_same 6 (some .boolean) :: lw_G) ({ frames := 7, cells := 2, slots := 12, locals := 102 } : Room)).room s m [.ref (adr 0), .int (nI d), .int (nI o)].toArray below meth c s.heap [] 2 12 (vx_MQ below (qR (some (.int (bI (r_same S (nI d) (nI o))))) (k_same S (nI d) (nI o) = 0)) (xT (fun X => k_same S (nI d) (nI o) = 1 ∧ X = nIOB)) [.ref (adr 0), .int (nI d), .int (nI o)].toArray s 2 12 (fun _ => False)) (F0 m 26 ls []) := by
    intro f
    induction f with
    | zero => intro i h0; exact absurd h0 (by omega)
    | succ f ih =>
      intro i hf hi hq ls hl
      refine lv_iload hx hb dX3_same_26 (lv_at hl 0 rfl) ?_
      refine lv_aload_n hx hb dX3_same_28 rfl (lv_at hl 1 rfl) ?_
      refine va_get (D := D) (ci := 3) (v := .ref (adr 3)) (C := RX3) (T := TX3) (N := 4) hx hb hG inG_X3 hown hK hP 0 (wl_at (by omega) hE0) rfl 2 (by decide) (hG _ g_101) (fun _ h9 => h9) rfl dX3_same_29 ?_
      refine va_get (D := D) (ci := 2) (v := .int (nI (c_ct S))) (C := RX2) (T := TX2) (N := 5) hx hb hG inG_X2 hown hK hP 3 (wl_at (by omega) hK0) rfl 4 (by decide) (hG _ g_41) (fun _ h9 => h9) rfl dX3_same_32 ?_
      refine lv_icmp_ge (tgt := 62) hx hb dX3_same_35 (by decide) (fun c35 => ?_) (fun c35 => ?_)
      · have n35 : (c_ct S) ≤ i := (nI_leI (a := (c_ct S)) (b := i) (by omega) (by omega)).mp c35
        refine lv_iconst (v := 1) hx hb dX3_same_62 (by decide) ?_
        refine W.widen (k := 2) (n := 12) (Nat.le_of_ble_eq_true rfl) (Nat.le_of_ble_eq_true rfl) ?_
        exact vx_ret (W.zret (v := 1) hx hb hr (by first | rfl | exact bI_nar _) (fun t ht _ => ⟨congrArg (fun z => Outcome.returned (some (Value.int z))) (by rw [show r_same S (nI d) (nI o) = true from by unfold r_same; rw [nI_clamp (by omega), nI_clamp (by omega), show c_ct S = i from by omega]; exact hq]; rfl), by unfold k_same; rw [hD, hO]; rfl, ht⟩) (fun _ h => nomatch h) dX3_same_63)
      · have n35 : ¬ (c_ct S) ≤ i := fun h => c35 ((nI_leI (a := (c_ct S)) (b := i) (by omega) (by omega)).mpr h)
        refine lv_aload_n hx hb dX3_same_38 rfl (lv_at hl 2 rfl) ?_
        refine lv_iload hx hb dX3_same_39 (lv_at hl 0 rfl) ?_
        refine wn_rV (rest := []) hx hb hml hown hG hN hP (cX0_hasSeen_r (by omega) hD0 hD1 (j := i) (by omega)) (cwV 1 hG (gV g_343 g_344 g_345 g_4 g_346) rfl rfl rfl (by decide +kernel) ⟨Nat.le_of_ble_eq_true rfl, Nat.le_of_ble_eq_true rfl⟩) (by omega) hD0 rfl rfl hl.1 rfl (Nat.le_of_ble_eq_true rfl) dX3_same_41 ⟨Nat.le_of_ble_eq_true rfl, Nat.le_of_ble_eq_true rfl⟩ ?_
        refine lv_aload hx hb dX3_same_44 (lv_at hl 3 rfl) ?_
        refine lv_iload hx hb dX3_same_46 (lv_at hl 0 rfl) ?_
        refine wn_rV (rest := [.int (bI (c_see S d i))]) hx hb hml hown hG hN hP (cX0_hasSeen_r (by omega) hO0 hO1 (j := i) (by omega)) (cwV 1 hG (gV g_343 g_344 g_345 g_4 g_346) rfl rfl rfl (by decide +kernel) ⟨Nat.le_of_ble_eq_true rfl, Nat.le_of_ble_eq_true rfl⟩) (by omega) hO0 rfl rfl hl.1 rfl (Nat.le_of_ble_eq_true rfl) dX3_same_48 ⟨Nat.le_of_ble_eq_true rfl, Nat.le_of_ble_eq_true rfl⟩ ?_
        refine lv_icmp_eq (tgt := 56) hx hb dX3_same_51 (by decide) (fun c51 => ?_) (fun c51 => ?_)
        · have e51 : c_see S d i = c_see S o i := bI_inj c51
          refine lv_iinc (v := nI (i + 1)) (lv' := [(5, .int (nI (i + 1))), (0, .ref (adr 0)), (3, .ref (adr (9 + 2 * d))), (4, .ref (adr (9 + 2 * o))), (1, .int (nI d)), (2, .int (nI o))]) hx hb dX3_same_56 hl (k := 0) rfl (nI_1 _) (by decide) rfl (fun ls hl => ?_)
          refine lv_goto (tgt := 26) hx hb dX3_same_59 (by decide) ?_
          exact ih (i + 1) (by omega) (by omega) (by simp only [alB, hq, Bool.true_and]; rw [e51]; simp) ls (lv_sub hl [0, 1, 2, 3, 4, 5] rfl)
        · have e51 : ¬ c_see S d i = c_see S o i := fun h => c51 (congrArg bI h)
          refine lv_iconst (v := 0) hx hb dX3_same_54 (by decide) ?_
          refine W.widen (k := 2) (n := 12) (Nat.le_of_ble_eq_true rfl) (Nat.le_of_ble_eq_true rfl) ?_
          exact vx_ret (W.zret (v := 0) hx hb hr (by first | rfl | exact bI_nar _) (fun t ht _ => ⟨congrArg (fun z => Outcome.returned (some (Value.int z))) (by rw [show r_same S (nI d) (nI o) = false from by unfold r_same; rw [nI_clamp (by omega), nI_clamp (by omega)]; exact alB_miss (P := fun i => c_see S d i == c_see S o i) (i := i) (by simpa using e51) (by omega)]; rfl), by unfold k_same; rw [hD, hO]; rfl, ht⟩) (fun _ h => nomatch h) dX3_same_55)
  exact L26 (c_ct S + 1) 0 (by omega) (by omega) rfl ls (lv_sub hl [0, 3, 2, 1, 4, 5] rfl)

set_option maxHeartbeats 4000000 in
set_option maxRecDepth 100000 in
theorem cX3_conflicts_x {l : Launch} {D : va_G} {cA : Nat → ClassId} {adr : Nat → Nat} {n : Nat} {E : Nat → va_E} {sa : Nat → Nat} {lo : Nat} (hls : l.stackTraces = false)  {S : CS} (hn : 30 ≤ n) (hR : Rep cA adr S E) (dd : Int32) : vx_Met l yX3_conflicts (.code yX3_conflicts cX3_conflicts 5 (some .int) :: lw_G) ({ frames := 7, cells := 1, slots := 6, locals := 102 } : Room) (va_Pc [.ref (adr 0), .int dd] (wdX D (kty cA) sa lo adr n E)) (qR (some (.int (r_conf S dd))) (k_conf S dd = 0)) (xT (fun X => k_conf S dd = 1 ∧ X = nIOB)) 1 6 (fun _ => False) := by
  refine vx_ofW (cc := cX3_conflicts) (maxL := 5) (ret := (some .int)) (by decide) rfl ?_
  intro p e s m args below meth c s₁ B hml hno hv
  obtain ⟨rfl, hP, hN, hX⟩ := hv
  have hx := B.exec
  have hb := B.bytes
  have hr := B.returns
  have hG : ∀ w ∈ lw_G, w.before _ s = true := fun w h => atoms_spec (ws := _ :: lw_G) B.pre w (List.mem_cons_of_mem _ h)
  have hown : s.vm.findClass RX3 = some m.cls := findClass_of_methodNamed B.named
  have hlocks := B.notSynchronized
  have hK := hN.1
  have hl := lv_entry ([.ref (adr 0), .int dd]) (n := 5) (Nat.le_of_ble_eq_true rfl)
  rw [lg_entry_eq]
  generalize (lg_sl ([.ref (adr 0), .int dd]) ++ List.replicate (5 - (lg_sl ([.ref (adr 0), .int dd])).length) Slot.unset).toArray = ls at hl ⊢
  have hl : lv_has ls 5 [(0, .ref (adr 0)), (1, .int dd)] := hl
  obtain ⟨hE0, hE1, hE2, hK0, hK1, hK2, hK3, hK4, ⟨hdv, hE8⟩, hDk, hTl, hct, hnm, htd, hmk, hlf⟩ := id hR
  refine lv_iload_n hx hb dX3_conflicts_0 rfl (lv_at hl 1 rfl) ?_
  refine wx_S (rest := []) hx hb hml hown hG hN hX hP (cX3_needDesk_x hls _) (cwS 1 hG (gS g_266 g_267 g_1 g_268) rfl rfl rfl (by decide +kernel) ⟨(Nat.le_of_ble_eq_true rfl), (Nat.le_of_ble_eq_true rfl)⟩) rfl hl.1 rfl (Nat.le_of_ble_eq_true rfl) dX3_conflicts_1 ⟨(Nat.le_of_ble_eq_true rfl), (Nat.le_of_ble_eq_true rfl)⟩ hno hlocks (Nat.le_of_ble_eq_true rfl) (Nat.le_of_ble_eq_true rfl) (fun X h => ⟨by unfold k_conf; rw [h.2]; rfl, h.1⟩) (fun hC => ?_)
  have hD := hC
  obtain ⟨d, hd, rfl⟩ := inN_of hC (by decide)
  obtain ⟨hD0, hD1⟩ := hDk d hd
  refine lv_aload_n hx hb dX3_conflicts_4 rfl (lv_at hl 0 rfl) ?_
  refine va_get (D := D) (ci := 3) (v := .ref (adr 2)) (C := RX3) (T := TX3) (N := 4) hx hb hG inG_X3 hown hK hP 0 (wl_at (by omega) hE0) rfl 1 (by decide) (hG _ g_100) (fun _ h9 => h9) rfl dX3_conflicts_5 ?_
  refine lv_iload_n hx hb dX3_conflicts_8 rfl (lv_at hl 1 rfl) ?_
  refine wn_ald (j := d) (g := fun j => 9 + 2 * j) hx hb hK hP 3 (by omega) hE2 rfl (by omega) (by decide) dX3_conflicts_9 ?_
  refine lv_astore_n (lv' := [(2, .ref (adr (9 + 2 * d))), (0, .ref (adr 0)), (1, .int (nI d))]) hx hb dX3_conflicts_10 rfl hl (by decide) rfl (fun ls hl => ?_)
  refine lv_iconst (v := 0) hx hb dX3_conflicts_11 (by decide) ?_
  refine lv_istore_n (lv' := [(3, .int 0), (2, .ref (adr (9 + 2 * d))), (0, .ref (adr 0)), (1, .int (nI d))]) hx hb dX3_conflicts_12 rfl hl (by decide) rfl (fun ls hl => ?_)
  refine lv_iconst (v := 0) hx hb dX3_conflicts_13 (by decide) ?_
  refine lv_istore (lv' := [(4, .int 0), (3, .int 0), (2, .ref (adr (9 + 2 * d))), (0, .ref (adr 0)), (1, .int (nI d))]) hx hb dX3_conflicts_14 hl (by decide) rfl (fun ls hl => ?_)
  have L16 : ∀ (f : Nat) (i : Nat), c_ct S - i < f → i ≤ c_ct S → ∀ ls : Array Slot, lv_has ls 5 [(4, .int (nI i)), (3, .int (nI (ctB (fun i => c_see S d i && c_beg S d i) i))), (0, .ref (adr 0)), (2, .ref (adr (9 + 2 * d))), (1, .int (nI d))] → W p l e (headSpec (.code yX3_conflicts cX3_conflicts 5 (some .int) :: lw_G) ({ frames := 7, cells := 1, slots := 6, locals := 102 } : Room)).room s m [.ref (adr 0), .int (nI d)].toArray below meth c s.heap [] 1 6 (vx_MQ below (qR (some (.int (r_conf S (nI d)))) (k_conf S (nI d) = 0)) (xT (fun X => k_conf S (nI d) = 1 ∧ X = nIOB)) [.ref (adr 0), .int (nI d)].toArray s 1 6 (fun _ => False)) (F0 m 16 ls []) := by
    intro f
    induction f with
    | zero => intro i h0; exact absurd h0 (by omega)
    | succ f ih =>
      intro i hf hi ls hl
      refine lv_iload hx hb dX3_conflicts_16 (lv_at hl 0 rfl) ?_
      refine lv_aload_n hx hb dX3_conflicts_18 rfl (lv_at hl 2 rfl) ?_
      refine va_get (D := D) (ci := 3) (v := .ref (adr 3)) (C := RX3) (T := TX3) (N := 4) hx hb hG inG_X3 hown hK hP 0 (wl_at (by omega) hE0) rfl 2 (by decide) (hG _ g_101) (fun _ h9 => h9) rfl dX3_conflicts_19 ?_
      refine va_get (D := D) (ci := 2) (v := .int (nI (c_ct S))) (C := RX2) (T := TX2) (N := 5) hx hb hG inG_X2 hown hK hP 3 (wl_at (by omega) hK0) rfl 4 (by decide) (hG _ g_41) (fun _ h9 => h9) rfl dX3_conflicts_22 ?_
      refine lv_icmp_ge (tgt := 56) hx hb dX3_conflicts_25 (by decide) (fun c25 => ?_) (fun c25 => ?_)
      · have n25 : (c_ct S) ≤ i := (nI_leI (a := (c_ct S)) (b := i) (by omega) (by omega)).mp c25
        refine lv_iload_n hx hb dX3_conflicts_56 rfl (lv_at hl 1 rfl) ?_
        refine W.widen (k := 1) (n := 6) (Nat.le_of_ble_eq_true rfl) (Nat.le_of_ble_eq_true rfl) ?_
        exact vx_ret (W.iret (v := nI (ctB (fun i => c_see S d i && c_beg S d i) i)) hx hb hr (fun t ht _ => ⟨congrArg (fun z => Outcome.returned (some (Value.int z))) (by unfold r_conf; rw [nI_clamp (by omega), show c_ct S = i from by omega]), by unfold k_conf; rw [hD]; rfl, ht⟩) (fun _ h => nomatch h) dX3_conflicts_57)
      · have n25 : ¬ (c_ct S) ≤ i := fun h => c25 ((nI_leI (a := (c_ct S)) (b := i) (by omega) (by omega)).mpr h)
        refine lv_aload_n hx hb dX3_conflicts_28 rfl (lv_at hl 3 rfl) ?_
        refine lv_iload hx hb dX3_conflicts_29 (lv_at hl 0 rfl) ?_
        refine wn_rV (rest := []) hx hb hml hown hG hN hP (cX0_hasSeen_r (by omega) hD0 hD1 (j := i) (by omega)) (cwV 1 hG (gV g_343 g_344 g_345 g_4 g_346) rfl rfl rfl (by decide +kernel) ⟨Nat.le_of_ble_eq_true rfl, Nat.le_of_ble_eq_true rfl⟩) (by omega) hD0 rfl rfl hl.1 rfl (Nat.le_of_ble_eq_true rfl) dX3_conflicts_31 ⟨Nat.le_of_ble_eq_true rfl, Nat.le_of_ble_eq_true rfl⟩ ?_
        refine lv_if_eq (tgt := 50) hx hb dX3_conflicts_34 (by decide) (fun c34 => ?_) (fun c34 => ?_)
        · have n34 : (c_see S d i) = false := bI_0.mp c34
          have hcs : ctB (fun i => c_see S d i && c_beg S d i) (i + 1) = ctB (fun i => c_see S d i && c_beg S d i) i := ctB_f (by simp only [n34, Bool.false_and])
          rw [← hcs] at hl
          refine lv_iinc (v := nI (i + 1)) (lv' := [(4, .int (nI (i + 1))), (3, .int (nI (ctB (fun i => c_see S d i && c_beg S d i) (i + 1)))), (0, .ref (adr 0)), (2, .ref (adr (9 + 2 * d))), (1, .int (nI d))]) hx hb dX3_conflicts_50 hl (k := 0) rfl (nI_1 _) (by decide) rfl (fun ls hl => ?_)
          refine lv_goto (tgt := 16) hx hb dX3_conflicts_53 (by decide) ?_
          exact ih (i + 1) (by omega) (by omega) ls (lv_sub hl [0, 1, 2, 3, 4] rfl)
        · have n34 : (c_see S d i) = true := bI_1.mp c34
          refine lv_aload_n hx hb dX3_conflicts_37 rfl (lv_at hl 2 rfl) ?_
          refine lv_aload_n hx hb dX3_conflicts_38 rfl (lv_at hl 3 rfl) ?_
          refine lv_iload hx hb dX3_conflicts_39 (lv_at hl 0 rfl) ?_
          refine wn_rV (rest := []) hx hb hml hown hG hN hP (cX3_beginsConflict_r hn hR hd (i := i) (by omega)) (cwV 2 hG (gV g_373 g_375 gp_X3_beginsConflict g_1 g_376) rfl rfl rfl (by decide +kernel) ⟨Nat.le_of_ble_eq_true rfl, Nat.le_of_ble_eq_true rfl⟩) (by omega) hE0 rfl rfl hl.1 rfl (Nat.le_of_ble_eq_true rfl) dX3_conflicts_41 ⟨Nat.le_of_ble_eq_true rfl, Nat.le_of_ble_eq_true rfl⟩ ?_
          refine lv_if_eq (tgt := 50) hx hb dX3_conflicts_44 (by decide) (fun c44 => ?_) (fun c44 => ?_)
          · have n44 : (c_beg S d i) = false := bI_0.mp c44
            have hcs : ctB (fun i => c_see S d i && c_beg S d i) (i + 1) = ctB (fun i => c_see S d i && c_beg S d i) i := ctB_f (by simp only [n44, Bool.and_false])
            rw [← hcs] at hl
            refine lv_iinc (v := nI (i + 1)) (lv' := [(4, .int (nI (i + 1))), (3, .int (nI (ctB (fun i => c_see S d i && c_beg S d i) (i + 1)))), (0, .ref (adr 0)), (2, .ref (adr (9 + 2 * d))), (1, .int (nI d))]) hx hb dX3_conflicts_50 hl (k := 0) rfl (nI_1 _) (by decide) rfl (fun ls hl => ?_)
            refine lv_goto (tgt := 16) hx hb dX3_conflicts_53 (by decide) ?_
            exact ih (i + 1) (by omega) (by omega) ls (lv_sub hl [0, 1, 2, 3, 4] rfl)
          · have n44 : (c_beg S d i) = true := bI_1.mp c44
            have hcs : ctB (fun i => c_see S d i && c_beg S d i) (i + 1) = ctB (fun i => c_see S d i && c_beg S d i) i + 1 := ctB_t (by simp only [n34, n44, Bool.and_true])
            refine lv_iinc (v := nI (ctB (fun i => c_see S d i && c_beg S d i) (i + 1))) (lv' := [(3, .int (nI (ctB (fun i => c_see S d i && c_beg S d i) (i + 1)))), (4, .int (nI i)), (0, .ref (adr 0)), (2, .ref (adr (9 + 2 * d))), (1, .int (nI d))]) hx hb dX3_conflicts_47 hl (k := 1) rfl (by rw [hcs]; exact nI_1 _) (by decide) rfl (fun ls hl => ?_)
            refine lv_iinc (v := nI (i + 1)) (lv' := [(4, .int (nI (i + 1))), (3, .int (nI (ctB (fun i => c_see S d i && c_beg S d i) (i + 1)))), (0, .ref (adr 0)), (2, .ref (adr (9 + 2 * d))), (1, .int (nI d))]) hx hb dX3_conflicts_50 hl (k := 1) rfl (nI_1 _) (by decide) rfl (fun ls hl => ?_)
            refine lv_goto (tgt := 16) hx hb dX3_conflicts_53 (by decide) ?_
            exact ih (i + 1) (by omega) (by omega) ls (lv_sub hl [0, 1, 2, 3, 4] rfl)
  exact L16 (c_ct S + 1) 0 (by omega) (by omega) ls (lv_sub hl [0, 1, 3, 2, 4] rfl)

set_option maxHeartbeats 4000000 in
set_option maxRecDepth 100000 in
theorem cX3_last_x {l : Launch} {D : va_G} {cA : Nat → ClassId} {adr : Nat → Nat} {n : Nat} {E : Nat → va_E} {sa : Nat → Nat} {lo : Nat} (hls : l.stackTraces = false)  {S : CS} (hn : 30 ≤ n) (hR : Rep cA adr S E) (dd kk ww : Int32) : vx_Met l yX3_last (.code yX3_last cX3_last 6 (some .int) :: lw_G) ({ frames := 7, cells := 3, slots := 18, locals := 119 } : Room) (va_Pc [.ref (adr 0), .int dd, .int kk, .int ww] (wdX D (kty cA) sa lo adr n E)) (qR (some (.int (r_last S dd kk ww))) (k_last S dd kk ww = 0)) (xT (fun X => (k_last S dd kk ww = 1 ∧ X = nIOB) ∨ (k_last S dd kk ww = 2 ∧ X = nISE))) 3 18 (fun _ => False) := by
  refine vx_ofW (cc := cX3_last) (maxL := 6) (ret := (some .int)) (by decide) rfl ?_
  intro p e s m args below meth c s₁ B hml hno hv
  obtain ⟨rfl, hP, hN, hX⟩ := hv
  have hx := B.exec
  have hb := B.bytes
  have hr := B.returns
  have hG : ∀ w ∈ lw_G, w.before _ s = true := fun w h => atoms_spec (ws := _ :: lw_G) B.pre w (List.mem_cons_of_mem _ h)
  have hown : s.vm.findClass RX3 = some m.cls := findClass_of_methodNamed B.named
  have hlocks := B.notSynchronized
  have hK := hN.1
  have hl := lv_entry ([.ref (adr 0), .int dd, .int kk, .int ww]) (n := 6) (Nat.le_of_ble_eq_true rfl)
  rw [lg_entry_eq]
  generalize (lg_sl ([.ref (adr 0), .int dd, .int kk, .int ww]) ++ List.replicate (6 - (lg_sl ([.ref (adr 0), .int dd, .int kk, .int ww])).length) Slot.unset).toArray = ls at hl ⊢
  have hl : lv_has ls 6 [(0, .ref (adr 0)), (1, .int dd), (2, .int kk), (3, .int ww)] := hl
  obtain ⟨hE0, hE1, hE2, hK0, hK1, hK2, hK3, hK4, ⟨hdv, hE8⟩, hDk, hTl, hct, hnm, htd, hmk, hlf⟩ := id hR
  refine lv_iload_n hx hb dX3_last_0 rfl (lv_at hl 1 rfl) ?_
  refine wx_S (rest := []) hx hb hml hown hG hN hX hP (cX3_needDesk_x hls _) (cwS 1 hG (gS g_266 g_267 g_1 g_268) rfl rfl rfl (by decide +kernel) ⟨(Nat.le_of_ble_eq_true rfl), (Nat.le_of_ble_eq_true rfl)⟩) rfl hl.1 rfl (Nat.le_of_ble_eq_true rfl) dX3_last_1 ⟨(Nat.le_of_ble_eq_true rfl), (Nat.le_of_ble_eq_true rfl)⟩ hno hlocks (Nat.le_of_ble_eq_true rfl) (Nat.le_of_ble_eq_true rfl) (fun X h => Or.inl ⟨by unfold k_last; rw [h.2]; rfl, h.1⟩) (fun hC => ?_)
  have hD := hC
  obtain ⟨d, hd, rfl⟩ := inN_of hC (by decide)
  obtain ⟨hD0, hD1⟩ := hDk d hd
  refine lv_iload_n hx hb dX3_last_4 rfl (lv_at hl 2 rfl) ?_
  refine wx_S (rest := []) hx hb hml hown hG hN hX hP (cX3_needKey_x hls _) (cwS 1 hG (gS g_404 g_405 g_1 g_406) rfl rfl rfl (by decide +kernel) ⟨(Nat.le_of_ble_eq_true rfl), (Nat.le_of_ble_eq_true rfl)⟩) rfl hl.1 rfl (Nat.le_of_ble_eq_true rfl) dX3_last_5 ⟨(Nat.le_of_ble_eq_true rfl), (Nat.le_of_ble_eq_true rfl)⟩ hno hlocks (Nat.le_of_ble_eq_true rfl) (Nat.le_of_ble_eq_true rfl) (fun X h => Or.inl ⟨by unfold k_last; rw [h.2, Bool.and_false]; rfl, h.1⟩) (fun hC => ?_)
  have hK9 := hC
  obtain ⟨k, hk, rfl⟩ := inN_of hC (by decide)
  refine lv_iload_n hx hb dX3_last_8 rfl (lv_at hl 3 rfl) ?_
  refine lv_if_lt (tgt := 17) hx hb dX3_last_9 (by decide) (fun c9 => ?_) (fun c9 => ?_)
  · exact th_IOB hx hb hls hown hG hN hX (hl.1.trans hml.symm) 14 rfl dX3_last_17 dX3_last_20 dX3_last_21 dX3_last_23 dX3_last_26 hno (Nat.le_of_ble_eq_true rfl) (Nat.le_of_ble_eq_true rfl) (Nat.le_of_ble_eq_true rfl) (Nat.le_of_ble_eq_true rfl) hlocks (Or.inl ⟨by unfold k_last; rw [(show inN ww 5 = false from by first | exact inN_neg c9 | exact Bool.eq_false_iff.mpr (fun h => c14 ((inN_le (n := 4) (by decide) c9).mp h))), Bool.and_false]; rfl, rfl⟩) (Nat.le_of_ble_eq_true rfl) (Nat.le_of_ble_eq_true rfl)
  · refine lv_iload_n hx hb dX3_last_12 rfl (lv_at hl 3 rfl) ?_
    refine lv_iconst (v := 4) hx hb dX3_last_13 (by decide) ?_
    refine lv_icmp_le (tgt := 27) hx hb dX3_last_14 (by decide) (fun c14 => ?_) (fun c14 => ?_)
    · have hW : inN ww 5 = true := (inN_le (n := 4) (by decide) c9).mpr c14
      refine lv_aload_n hx hb dX3_last_27 rfl (lv_at hl 0 rfl) ?_
      refine va_get (D := D) (ci := 3) (v := .ref (adr 2)) (C := RX3) (T := TX3) (N := 4) hx hb hG inG_X3 hown hK hP 0 (wl_at (by omega) hE0) rfl 1 (by decide) (hG _ g_100) (fun _ h9 => h9) rfl dX3_last_28 ?_
      refine lv_iload_n hx hb dX3_last_31 rfl (lv_at hl 1 rfl) ?_
      refine wn_ald (j := d) (g := fun j => 9 + 2 * j) hx hb hK hP 3 (by omega) hE2 rfl (by omega) (by decide) dX3_last_32 ?_
      refine lv_astore (lv' := [(4, .ref (adr (9 + 2 * d))), (0, .ref (adr 0)), (1, .int (nI d)), (2, .int (nI k)), (3, .int ww)]) hx hb dX3_last_33 hl (by decide) rfl (fun ls hl => ?_)
      refine lv_aload_n hx hb dX3_last_35 rfl (lv_at hl 1 rfl) ?_
      refine lv_aload hx hb dX3_last_36 (lv_at hl 0 rfl) ?_
      refine lv_iload_n hx hb dX3_last_38 rfl (lv_at hl 3 rfl) ?_
      refine lv_aload hx hb dX3_last_39 (lv_at hl 0 rfl) ?_
      refine va_get (D := D) (ci := 0) (v := .int (c_mt S d)) (C := RX0) (T := TX0) (N := 5) hx hb hG inG_X0 hown hK hP (9 + 2 * d) (wl_at (by omega) hD0) rfl 1 (by decide) (hG _ g_81) (fun _ h9 => h9) rfl dX3_last_41 ?_
      refine wn_rV (rest := []) hx hb hml hown hG hN hP (cX3_findLast_r hn hR hd (key := k) (by omega) (c_mt S d)) (cwV 3 hG (gV g_409 g_411 gp_X3_findLast g_1 g_412) rfl rfl rfl (by decide +kernel) ⟨Nat.le_of_ble_eq_true rfl, Nat.le_of_ble_eq_true rfl⟩) (by omega) hE0 rfl rfl hl.1 rfl (Nat.le_of_ble_eq_true rfl) dX3_last_44 ⟨Nat.le_of_ble_eq_true rfl, Nat.le_of_ble_eq_true rfl⟩ ?_
      refine lv_istore (lv' := [(5, .int (oI (c_lst S d k (c_mt S d)))), (4, .ref (adr (9 + 2 * d))), (0, .ref (adr 0)), (1, .int (nI d)), (2, .int (nI k)), (3, .int ww)]) hx hb dX3_last_47 hl (by decide) rfl (fun ls hl => ?_)
      refine lv_iload hx hb dX3_last_49 (lv_at hl 0 rfl) ?_
      refine lv_iconst (v := (-1)) hx hb dX3_last_51 (by decide) ?_
      refine lv_icmp_ne (tgt := 65) hx hb dX3_last_52 (by decide) (fun c52 => ?_) (fun c52 => ?_)
      · obtain ⟨z, hz⟩ := oI_ne c52
        have bz := lst_lt hz
        rw [hz] at hl
        refine lv_iload_n hx hb dX3_last_65 rfl (lv_at hl 5 rfl) ?_
        obtain ⟨j, hj, rfl⟩ := inN_of hW (by decide)
        rcases (show j = 0 ∨ j = 1 ∨ j = 2 ∨ j = 3 ∨ j = 4 by omega) with rfl | rfl | rfl | rfl | rfl
        · refine lv_tableIn (off := 30) (tgt := 96) hx hb dX3_last_66 (by decide) (by decide) (by decide) (by decide) ?_
          refine lv_aload_n hx hb dX3_last_96 rfl (lv_at hl 2 rfl) ?_
          refine va_get (D := D) (ci := 3) (v := .ref (adr 3)) (C := RX3) (T := TX3) (N := 4) hx hb hG inG_X3 hown hK hP 0 (wl_at (by omega) hE0) rfl 2 (by decide) (hG _ g_101) (fun _ h9 => h9) rfl dX3_last_97 ?_
          refine va_get (D := D) (ci := 2) (v := .ref (adr (3 + 3))) (C := RX2) (T := TX2) (N := 5) hx hb hG inG_X2 hown hK hP 3 (wl_at (by omega) hK0) rfl 2 (by decide) (hG _ g_37) (fun _ h9 => h9) rfl dX3_last_100 ?_
          refine lv_iload hx hb dX3_last_103 (lv_at hl 0 rfl) ?_
          refine wn_iald (j := z) hx hb hK hP (by omega) hK3 (by omega) (by decide) dX3_last_105 ?_
          refine W.widen (k := 3) (n := 18) (Nat.le_of_ble_eq_true rfl) (Nat.le_of_ble_eq_true rfl) ?_
          exact vx_ret (W.iret (v := (c_vl S) z) hx hb hr (fun t ht _ => ⟨congrArg (fun z => Outcome.returned (some (Value.int z))) (by unfold r_last; rw [nI_clamp (by omega), nI_clamp (by omega), hz]; rfl), by unfold k_last; rw [hD, hK9, hW, nI_clamp (by omega), nI_clamp (by omega), hz]; rfl, ht⟩) (fun _ h => nomatch h) dX3_last_106)
        · refine lv_tableIn (off := 41) (tgt := 107) hx hb dX3_last_66 (by decide) (by decide) (by decide) (by decide) ?_
          refine lv_aload_n hx hb dX3_last_107 rfl (lv_at hl 2 rfl) ?_
          refine lv_iload hx hb dX3_last_108 (lv_at hl 0 rfl) ?_
          refine wn_rV (rest := []) hx hb hml hown hG hN hP (cX3_realTimeOf_r hn hR (i := z) (by omega)) (cwV 1 hG (gV g_428 g_430 gp_X3_realTimeOf g_1 g_431) rfl rfl rfl (by decide +kernel) ⟨Nat.le_of_ble_eq_true rfl, Nat.le_of_ble_eq_true rfl⟩) (by omega) hE0 rfl rfl hl.1 rfl (Nat.le_of_ble_eq_true rfl) dX3_last_110 ⟨Nat.le_of_ble_eq_true rfl, Nat.le_of_ble_eq_true rfl⟩ ?_
          refine W.widen (k := 3) (n := 18) (Nat.le_of_ble_eq_true rfl) (Nat.le_of_ble_eq_true rfl) ?_
          exact vx_ret (W.iret (v := c_rt S z) hx hb hr (fun t ht _ => ⟨congrArg (fun z => Outcome.returned (some (Value.int z))) (by unfold r_last; rw [nI_clamp (by omega), nI_clamp (by omega), hz]; rfl), by unfold k_last; rw [hD, hK9, hW, nI_clamp (by omega), nI_clamp (by omega), hz]; rfl, ht⟩) (fun _ h => nomatch h) dX3_last_113)
        · refine lv_tableIn (off := 48) (tgt := 114) hx hb dX3_last_66 (by decide) (by decide) (by decide) (by decide) ?_
          refine lv_aload_n hx hb dX3_last_114 rfl (lv_at hl 2 rfl) ?_
          refine va_get (D := D) (ci := 3) (v := .ref (adr 3)) (C := RX3) (T := TX3) (N := 4) hx hb hG inG_X3 hown hK hP 0 (wl_at (by omega) hE0) rfl 2 (by decide) (hG _ g_101) (fun _ h9 => h9) rfl dX3_last_115 ?_
          refine lv_iload hx hb dX3_last_118 (lv_at hl 0 rfl) ?_
          refine wn_rV (rest := []) hx hb hml hown hG hN hP (cX2_teller_r (by omega) hct hK0 hK1 hK2 hK3 hK4 hnm htd (i := z) (by omega)) (cwV 1 hG (gV g_432 g_433 g_434 g_2 g_435) rfl rfl rfl (by decide +kernel) ⟨Nat.le_of_ble_eq_true rfl, Nat.le_of_ble_eq_true rfl⟩) (by omega) hK0 rfl rfl hl.1 rfl (Nat.le_of_ble_eq_true rfl) dX3_last_120 ⟨Nat.le_of_ble_eq_true rfl, Nat.le_of_ble_eq_true rfl⟩ ?_
          refine W.widen (k := 3) (n := 18) (Nat.le_of_ble_eq_true rfl) (Nat.le_of_ble_eq_true rfl) ?_
          exact vx_ret (W.iret (v := nI (c_nm S z / 512)) hx hb hr (fun t ht _ => ⟨congrArg (fun z => Outcome.returned (some (Value.int z))) (by unfold r_last; rw [nI_clamp (by omega), nI_clamp (by omega), hz]; rfl), by unfold k_last; rw [hD, hK9, hW, nI_clamp (by omega), nI_clamp (by omega), hz]; rfl, ht⟩) (fun _ h => nomatch h) dX3_last_123)
        · refine lv_tableIn (off := 58) (tgt := 124) hx hb dX3_last_66 (by decide) (by decide) (by decide) (by decide) ?_
          refine lv_aload_n hx hb dX3_last_124 rfl (lv_at hl 2 rfl) ?_
          refine va_get (D := D) (ci := 3) (v := .ref (adr 3)) (C := RX3) (T := TX3) (N := 4) hx hb hG inG_X3 hown hK hP 0 (wl_at (by omega) hE0) rfl 2 (by decide) (hG _ g_101) (fun _ h9 => h9) rfl dX3_last_125 ?_
          refine lv_iload hx hb dX3_last_128 (lv_at hl 0 rfl) ?_
          refine wn_rV (rest := []) hx hb hml hown hG hN hP (cX2_number_r (by omega) hct hK0 hK1 hK2 hK3 hK4 hnm htd (i := z) (by omega)) (cwV 1 hG (gV g_455 g_447 g_448 g_2 g_449) rfl rfl rfl (by decide +kernel) ⟨Nat.le_of_ble_eq_true rfl, Nat.le_of_ble_eq_true rfl⟩) (by omega) hK0 rfl rfl hl.1 rfl (Nat.le_of_ble_eq_true rfl) dX3_last_130 ⟨Nat.le_of_ble_eq_true rfl, Nat.le_of_ble_eq_true rfl⟩ ?_
          refine W.widen (k := 3) (n := 18) (Nat.le_of_ble_eq_true rfl) (Nat.le_of_ble_eq_true rfl) ?_
          exact vx_ret (W.iret (v := nI (c_nm S z % 128)) hx hb hr (fun t ht _ => ⟨congrArg (fun z => Outcome.returned (some (Value.int z))) (by unfold r_last; rw [nI_clamp (by omega), nI_clamp (by omega), hz]; rfl), by unfold k_last; rw [hD, hK9, hW, nI_clamp (by omega), nI_clamp (by omega), hz]; rfl, ht⟩) (fun _ h => nomatch h) dX3_last_133)
        · refine lv_tableOut (tgt := 134) hx hb dX3_last_66 (by decide) (by decide) ?_
          refine lv_aload_n hx hb dX3_last_134 rfl (lv_at hl 2 rfl) ?_
          refine va_get (D := D) (ci := 3) (v := .ref (adr 3)) (C := RX3) (T := TX3) (N := 4) hx hb hG inG_X3 hown hK hP 0 (wl_at (by omega) hE0) rfl 2 (by decide) (hG _ g_101) (fun _ h9 => h9) rfl dX3_last_135 ?_
          refine lv_iload hx hb dX3_last_138 (lv_at hl 0 rfl) ?_
          refine wn_rV (rest := []) hx hb hml hown hG hN hP (cX2_life_r (by omega) hct hK0 hK1 hK2 hK3 hK4 hnm htd (i := z) (by omega)) (cwV 1 hG (gV g_456 g_441 g_442 g_2 g_443) rfl rfl rfl (by decide +kernel) ⟨Nat.le_of_ble_eq_true rfl, Nat.le_of_ble_eq_true rfl⟩) (by omega) hK0 rfl rfl hl.1 rfl (Nat.le_of_ble_eq_true rfl) dX3_last_140 ⟨Nat.le_of_ble_eq_true rfl, Nat.le_of_ble_eq_true rfl⟩ ?_
          refine W.widen (k := 3) (n := 18) (Nat.le_of_ble_eq_true rfl) (Nat.le_of_ble_eq_true rfl) ?_
          exact vx_ret (W.iret (v := nI (c_nm S z / 128 % 4)) hx hb hr (fun t ht _ => ⟨congrArg (fun z => Outcome.returned (some (Value.int z))) (by unfold r_last; rw [nI_clamp (by omega), nI_clamp (by omega), hz]; rfl), by unfold k_last; rw [hD, hK9, hW, nI_clamp (by omega), nI_clamp (by omega), hz]; rfl, ht⟩) (fun _ h => nomatch h) dX3_last_143)
      · exact th_ISE hx hb hls hown hG hN hX (hl.1.trans hml.symm) 15 rfl dX3_last_55 dX3_last_58 dX3_last_59 dX3_last_61 dX3_last_64 hno (Nat.le_of_ble_eq_true rfl) (Nat.le_of_ble_eq_true rfl) (Nat.le_of_ble_eq_true rfl) (Nat.le_of_ble_eq_true rfl) hlocks (Or.inr ⟨by unfold k_last; rw [hD, hK9, hW, nI_clamp (by omega), nI_clamp (by omega), if_pos ((oI_n1 (fun z hz => by have := lst_lt hz; omega)).mp c52)]; rfl, rfl⟩) (Nat.le_of_ble_eq_true rfl) (Nat.le_of_ble_eq_true rfl)
    · exact th_IOB hx hb hls hown hG hN hX (hl.1.trans hml.symm) 14 rfl dX3_last_17 dX3_last_20 dX3_last_21 dX3_last_23 dX3_last_26 hno (Nat.le_of_ble_eq_true rfl) (Nat.le_of_ble_eq_true rfl) (Nat.le_of_ble_eq_true rfl) (Nat.le_of_ble_eq_true rfl) hlocks (Or.inl ⟨by unfold k_last; rw [(show inN ww 5 = false from by first | exact inN_neg c9 | exact Bool.eq_false_iff.mpr (fun h => c14 ((inN_le (n := 4) (by decide) c9).mp h))), Bool.and_false]; rfl, rfl⟩) (Nat.le_of_ble_eq_true rfl) (Nat.le_of_ble_eq_true rfl)

set_option maxHeartbeats 4000000 in
set_option maxRecDepth 100000 in
theorem cX3_known_x {l : Launch} {D : va_G} {cA : Nat → ClassId} {adr : Nat → Nat} {n : Nat} {E : Nat → va_E} {sa : Nat → Nat} {lo : Nat} (hls : l.stackTraces = false)  {S : CS} (hn : 30 ≤ n) (hR : Rep cA adr S E) (dd kk mm : Int32) : vx_Met l yX3_known (.code yX3_known cX3_known 6 (some .int) :: lw_G) ({ frames := 7, cells := 3, slots := 18, locals := 119 } : Room) (va_Pc [.ref (adr 0), .int dd, .int kk, .int mm] (wdX D (kty cA) sa lo adr n E)) (qR (some (.int (r_known S dd kk mm))) (k_known S dd kk mm = 0)) (xT (fun X => (k_known S dd kk mm = 1 ∧ X = nIOB) ∨ (k_known S dd kk mm = 2 ∧ X = nISE) ∨ (k_known S dd kk mm = 3 ∧ X = nIAE))) 3 18 (fun _ => False) := by
  refine vx_ofW (cc := cX3_known) (maxL := 6) (ret := (some .int)) (by decide) rfl ?_
  intro p e s m args below meth c s₁ B hml hno hv
  obtain ⟨rfl, hP, hN, hX⟩ := hv
  have hx := B.exec
  have hb := B.bytes
  have hr := B.returns
  have hG : ∀ w ∈ lw_G, w.before _ s = true := fun w h => atoms_spec (ws := _ :: lw_G) B.pre w (List.mem_cons_of_mem _ h)
  have hown : s.vm.findClass RX3 = some m.cls := findClass_of_methodNamed B.named
  have hlocks := B.notSynchronized
  have hK := hN.1
  have hl := lv_entry ([.ref (adr 0), .int dd, .int kk, .int mm]) (n := 6) (Nat.le_of_ble_eq_true rfl)
  rw [lg_entry_eq]
  generalize (lg_sl ([.ref (adr 0), .int dd, .int kk, .int mm]) ++ List.replicate (6 - (lg_sl ([.ref (adr 0), .int dd, .int kk, .int mm])).length) Slot.unset).toArray = ls at hl ⊢
  have hl : lv_has ls 6 [(0, .ref (adr 0)), (1, .int dd), (2, .int kk), (3, .int mm)] := hl
  obtain ⟨hE0, hE1, hE2, hK0, hK1, hK2, hK3, hK4, ⟨hdv, hE8⟩, hDk, hTl, hct, hnm, htd, hmk, hlf⟩ := id hR
  refine lv_iload_n hx hb dX3_known_0 rfl (lv_at hl 1 rfl) ?_
  refine wx_S (rest := []) hx hb hml hown hG hN hX hP (cX3_needDesk_x hls _) (cwS 1 hG (gS g_266 g_267 g_1 g_268) rfl rfl rfl (by decide +kernel) ⟨(Nat.le_of_ble_eq_true rfl), (Nat.le_of_ble_eq_true rfl)⟩) rfl hl.1 rfl (Nat.le_of_ble_eq_true rfl) dX3_known_1 ⟨(Nat.le_of_ble_eq_true rfl), (Nat.le_of_ble_eq_true rfl)⟩ hno hlocks (Nat.le_of_ble_eq_true rfl) (Nat.le_of_ble_eq_true rfl) (fun X h => Or.inl ⟨by unfold k_known; rw [h.2]; rfl, h.1⟩) (fun hC => ?_)
  have hD := hC
  obtain ⟨d, hd, rfl⟩ := inN_of hC (by decide)
  obtain ⟨hD0, hD1⟩ := hDk d hd
  refine lv_iload_n hx hb dX3_known_4 rfl (lv_at hl 2 rfl) ?_
  refine wx_S (rest := []) hx hb hml hown hG hN hX hP (cX3_needKey_x hls _) (cwS 1 hG (gS g_404 g_405 g_1 g_406) rfl rfl rfl (by decide +kernel) ⟨(Nat.le_of_ble_eq_true rfl), (Nat.le_of_ble_eq_true rfl)⟩) rfl hl.1 rfl (Nat.le_of_ble_eq_true rfl) dX3_known_5 ⟨(Nat.le_of_ble_eq_true rfl), (Nat.le_of_ble_eq_true rfl)⟩ hno hlocks (Nat.le_of_ble_eq_true rfl) (Nat.le_of_ble_eq_true rfl) (fun X h => Or.inl ⟨by unfold k_known; rw [h.2, Bool.and_false]; rfl, h.1⟩) (fun hC => ?_)
  have hK9 := hC
  obtain ⟨k, hk, rfl⟩ := inN_of hC (by decide)
  refine lv_aload_n hx hb dX3_known_8 rfl (lv_at hl 0 rfl) ?_
  refine va_get (D := D) (ci := 3) (v := .ref (adr 2)) (C := RX3) (T := TX3) (N := 4) hx hb hG inG_X3 hown hK hP 0 (wl_at (by omega) hE0) rfl 1 (by decide) (hG _ g_100) (fun _ h9 => h9) rfl dX3_known_9 ?_
  refine lv_iload_n hx hb dX3_known_12 rfl (lv_at hl 1 rfl) ?_
  refine wn_ald (j := d) (g := fun j => 9 + 2 * j) hx hb hK hP 3 (by omega) hE2 rfl (by omega) (by decide) dX3_known_13 ?_
  refine lv_astore (lv' := [(4, .ref (adr (9 + 2 * d))), (0, .ref (adr 0)), (1, .int (nI d)), (2, .int (nI k)), (3, .int mm)]) hx hb dX3_known_14 hl (by decide) rfl (fun ls hl => ?_)
  refine lv_iload_n hx hb dX3_known_16 rfl (lv_at hl 4 rfl) ?_
  refine lv_if_lt (tgt := 29) hx hb dX3_known_17 (by decide) (fun c17 => ?_) (fun c17 => ?_)
  · exact th_IAE hx hb hls hown hG hN hX (hl.1.trans hml.symm) 16 rfl dX3_known_29 dX3_known_32 dX3_known_33 dX3_known_35 dX3_known_38 hno (Nat.le_of_ble_eq_true rfl) (Nat.le_of_ble_eq_true rfl) (Nat.le_of_ble_eq_true rfl) (Nat.le_of_ble_eq_true rfl) hlocks (Or.inr (Or.inr ⟨by unfold k_known; rw [hD, hK9, nI_clamp (by omega), nI_clamp (by omega)]; first | (rw [show decide (0 ≤ mm) = false from by simpa using c17]; rfl) | (rw [show decide (mm ≤ c_mt S d) = false from by simpa using c26, Bool.and_false]; rfl), rfl⟩)) (Nat.le_of_ble_eq_true rfl) (Nat.le_of_ble_eq_true rfl)
  · refine lv_iload_n hx hb dX3_known_20 rfl (lv_at hl 4 rfl) ?_
    refine lv_aload hx hb dX3_known_21 (lv_at hl 0 rfl) ?_
    refine va_get (D := D) (ci := 0) (v := .int (c_mt S d)) (C := RX0) (T := TX0) (N := 5) hx hb hG inG_X0 hown hK hP (9 + 2 * d) (wl_at (by omega) hD0) rfl 1 (by decide) (hG _ g_81) (fun _ h9 => h9) rfl dX3_known_23 ?_
    refine lv_icmp_le (tgt := 39) hx hb dX3_known_26 (by decide) (fun c26 => ?_) (fun c26 => ?_)
    · refine lv_aload_n hx hb dX3_known_39 rfl (lv_at hl 1 rfl) ?_
      refine lv_aload hx hb dX3_known_40 (lv_at hl 0 rfl) ?_
      refine lv_iload_n hx hb dX3_known_42 rfl (lv_at hl 3 rfl) ?_
      refine lv_iload_n hx hb dX3_known_43 rfl (lv_at hl 4 rfl) ?_
      refine wn_rV (rest := []) hx hb hml hown hG hN hP (cX3_findLast_r hn hR hd (key := k) (by omega) mm) (cwV 3 hG (gV g_409 g_411 gp_X3_findLast g_1 g_412) rfl rfl rfl (by decide +kernel) ⟨Nat.le_of_ble_eq_true rfl, Nat.le_of_ble_eq_true rfl⟩) (by omega) hE0 rfl rfl hl.1 rfl (Nat.le_of_ble_eq_true rfl) dX3_known_44 ⟨Nat.le_of_ble_eq_true rfl, Nat.le_of_ble_eq_true rfl⟩ ?_
      refine lv_istore (lv' := [(5, .int (oI (c_lst S d k mm))), (4, .ref (adr (9 + 2 * d))), (0, .ref (adr 0)), (1, .int (nI d)), (2, .int (nI k)), (3, .int mm)]) hx hb dX3_known_47 hl (by decide) rfl (fun ls hl => ?_)
      refine lv_iload hx hb dX3_known_49 (lv_at hl 0 rfl) ?_
      refine lv_iconst (v := (-1)) hx hb dX3_known_51 (by decide) ?_
      refine lv_icmp_ne (tgt := 65) hx hb dX3_known_52 (by decide) (fun c52 => ?_) (fun c52 => ?_)
      · obtain ⟨z, hz⟩ := oI_ne c52
        have bz := lst_lt hz
        rw [hz] at hl
        refine lv_aload_n hx hb dX3_known_65 rfl (lv_at hl 2 rfl) ?_
        refine va_get (D := D) (ci := 3) (v := .ref (adr 3)) (C := RX3) (T := TX3) (N := 4) hx hb hG inG_X3 hown hK hP 0 (wl_at (by omega) hE0) rfl 2 (by decide) (hG _ g_101) (fun _ h9 => h9) rfl dX3_known_66 ?_
        refine va_get (D := D) (ci := 2) (v := .ref (adr (3 + 3))) (C := RX2) (T := TX2) (N := 5) hx hb hG inG_X2 hown hK hP 3 (wl_at (by omega) hK0) rfl 2 (by decide) (hG _ g_37) (fun _ h9 => h9) rfl dX3_known_69 ?_
        refine lv_iload hx hb dX3_known_72 (lv_at hl 0 rfl) ?_
        refine wn_iald (j := z) hx hb hK hP (by omega) hK3 (by omega) (by decide) dX3_known_74 ?_
        refine W.widen (k := 3) (n := 18) (Nat.le_of_ble_eq_true rfl) (Nat.le_of_ble_eq_true rfl) ?_
        exact vx_ret (W.iret (v := (c_vl S) z) hx hb hr (fun t ht _ => ⟨congrArg (fun z => Outcome.returned (some (Value.int z))) (by unfold r_known; rw [nI_clamp (by omega), nI_clamp (by omega), hz]; rfl), by unfold k_known; rw [hD, hK9, nI_clamp (by omega), nI_clamp (by omega), show decide (0 ≤ mm) = true from by simpa using c17, show decide (mm ≤ c_mt S d) = true from by simpa using c26, hz]; rfl, ht⟩) (fun _ h => nomatch h) dX3_known_75)
      · exact th_ISE hx hb hls hown hG hN hX (hl.1.trans hml.symm) 17 rfl dX3_known_55 dX3_known_58 dX3_known_59 dX3_known_61 dX3_known_64 hno (Nat.le_of_ble_eq_true rfl) (Nat.le_of_ble_eq_true rfl) (Nat.le_of_ble_eq_true rfl) (Nat.le_of_ble_eq_true rfl) hlocks (Or.inr (Or.inl ⟨by unfold k_known; rw [hD, hK9, nI_clamp (by omega), nI_clamp (by omega), show decide (0 ≤ mm) = true from by simpa using c17, show decide (mm ≤ c_mt S d) = true from by simpa using c26, if_pos ((oI_n1 (fun z hz => by have := lst_lt hz; omega)).mp c52)]; rfl, rfl⟩)) (Nat.le_of_ble_eq_true rfl) (Nat.le_of_ble_eq_true rfl)
    · exact th_IAE hx hb hls hown hG hN hX (hl.1.trans hml.symm) 16 rfl dX3_known_29 dX3_known_32 dX3_known_33 dX3_known_35 dX3_known_38 hno (Nat.le_of_ble_eq_true rfl) (Nat.le_of_ble_eq_true rfl) (Nat.le_of_ble_eq_true rfl) (Nat.le_of_ble_eq_true rfl) hlocks (Or.inr (Or.inr ⟨by unfold k_known; rw [hD, hK9, nI_clamp (by omega), nI_clamp (by omega)]; first | (rw [show decide (0 ≤ mm) = false from by simpa using c17]; rfl) | (rw [show decide (mm ≤ c_mt S d) = false from by simpa using c26, Bool.and_false]; rfl), rfl⟩)) (Nat.le_of_ble_eq_true rfl) (Nat.le_of_ble_eq_true rfl)
end
section
/-! STEPS OF THE CLASS'S STATE, and the world behind them -/
def uT (S : CS) (t mk lf : Nat) (ow re : Nat → Int32) : CS := (c_ct S, c_nm S, c_td S, c_vl S, c_sd S, c_mo S, c_mt S, c_sn S, c_wt S, c_ib S, upN (c_mk S) t mk, upN (c_lf S) t lf, va_up (c_ow S) t ow, va_up (c_re S) t re)
def uD (S : CS) (d : Nat) (mo : Nat → Int32) (mt sn wt : Int32) (ib : Bool) : CS := (c_ct S, c_nm S, c_td S, c_vl S, c_sd S, va_up (c_mo S) d mo, va_up (c_mt S) d mt, va_up (c_sn S) d sn, va_up (c_wt S) d wt, va_up (c_ib S) d ib, c_mk S, c_lf S, c_ow S, c_re S)
def uK (S : CS) (ct : Nat) (nm td : Nat → Nat) (vl : Nat → Int32) (sd : Nat → Bool) : CS := (ct, nm, td, vl, sd, c_mo S, c_mt S, c_sn S, c_wt S, c_ib S, c_mk S, c_lf S, c_ow S, c_re S)
theorem upN_self (f : Nat → Nat) (k x : Nat) : upN f k x k = x := by simp [upN]
theorem upN_ne (f : Nat → Nat) {k j : Nat} (x : Nat) (h : j ≠ k) : upN f k x j = f j := by simp [upN, h]
theorem uT_ct (S : CS) (t mk lf : Nat) (ow re : Nat → Int32) : c_ct (uT S t mk lf ow re) = c_ct S := rfl
theorem uT_nm (S : CS) (t mk lf : Nat) (ow re : Nat → Int32) : c_nm (uT S t mk lf ow re) = c_nm S := rfl
theorem uT_td (S : CS) (t mk lf : Nat) (ow re : Nat → Int32) : c_td (uT S t mk lf ow re) = c_td S := rfl
theorem uT_vl (S : CS) (t mk lf : Nat) (ow re : Nat → Int32) : c_vl (uT S t mk lf ow re) = c_vl S := rfl
theorem uT_sd (S : CS) (t mk lf : Nat) (ow re : Nat → Int32) : c_sd (uT S t mk lf ow re) = c_sd S := rfl
theorem uT_mo (S : CS) (t mk lf : Nat) (ow re : Nat → Int32) : c_mo (uT S t mk lf ow re) = c_mo S := rfl
theorem uT_mt (S : CS) (t mk lf : Nat) (ow re : Nat → Int32) : c_mt (uT S t mk lf ow re) = c_mt S := rfl
theorem uT_sn (S : CS) (t mk lf : Nat) (ow re : Nat → Int32) : c_sn (uT S t mk lf ow re) = c_sn S := rfl
theorem uT_wt (S : CS) (t mk lf : Nat) (ow re : Nat → Int32) : c_wt (uT S t mk lf ow re) = c_wt S := rfl
theorem uT_ib (S : CS) (t mk lf : Nat) (ow re : Nat → Int32) : c_ib (uT S t mk lf ow re) = c_ib S := rfl
theorem uT_mk (S : CS) (t mk lf : Nat) (ow re : Nat → Int32) : c_mk (uT S t mk lf ow re) = upN (c_mk S) t mk := rfl
theorem uT_lf (S : CS) (t mk lf : Nat) (ow re : Nat → Int32) : c_lf (uT S t mk lf ow re) = upN (c_lf S) t lf := rfl
theorem uT_ow (S : CS) (t mk lf : Nat) (ow re : Nat → Int32) : c_ow (uT S t mk lf ow re) = va_up (c_ow S) t ow := rfl
theorem uT_re (S : CS) (t mk lf : Nat) (ow re : Nat → Int32) : c_re (uT S t mk lf ow re) = va_up (c_re S) t re := rfl
theorem uD_ct (S : CS) (d : Nat) (mo : Nat → Int32) (mt sn wt : Int32) (ib : Bool) : c_ct (uD S d mo mt sn wt ib) = c_ct S := rfl
theorem uD_nm (S : CS) (d : Nat) (mo : Nat → Int32) (mt sn wt : Int32) (ib : Bool) : c_nm (uD S d mo mt sn wt ib) = c_nm S := rfl
theorem uD_td (S : CS) (d : Nat) (mo : Nat → Int32) (mt sn wt : Int32) (ib : Bool) : c_td (uD S d mo mt sn wt ib) = c_td S := rfl
theorem uD_vl (S : CS) (d : Nat) (mo : Nat → Int32) (mt sn wt : Int32) (ib : Bool) : c_vl (uD S d mo mt sn wt ib) = c_vl S := rfl
theorem uD_sd (S : CS) (d : Nat) (mo : Nat → Int32) (mt sn wt : Int32) (ib : Bool) : c_sd (uD S d mo mt sn wt ib) = c_sd S := rfl
theorem uD_mo (S : CS) (d : Nat) (mo : Nat → Int32) (mt sn wt : Int32) (ib : Bool) : c_mo (uD S d mo mt sn wt ib) = va_up (c_mo S) d mo := rfl
theorem uD_mt (S : CS) (d : Nat) (mo : Nat → Int32) (mt sn wt : Int32) (ib : Bool) : c_mt (uD S d mo mt sn wt ib) = va_up (c_mt S) d mt := rfl
theorem uD_sn (S : CS) (d : Nat) (mo : Nat → Int32) (mt sn wt : Int32) (ib : Bool) : c_sn (uD S d mo mt sn wt ib) = va_up (c_sn S) d sn := rfl
theorem uD_wt (S : CS) (d : Nat) (mo : Nat → Int32) (mt sn wt : Int32) (ib : Bool) : c_wt (uD S d mo mt sn wt ib) = va_up (c_wt S) d wt := rfl
theorem uD_ib (S : CS) (d : Nat) (mo : Nat → Int32) (mt sn wt : Int32) (ib : Bool) : c_ib (uD S d mo mt sn wt ib) = va_up (c_ib S) d ib := rfl
theorem uD_mk (S : CS) (d : Nat) (mo : Nat → Int32) (mt sn wt : Int32) (ib : Bool) : c_mk (uD S d mo mt sn wt ib) = c_mk S := rfl
theorem uD_lf (S : CS) (d : Nat) (mo : Nat → Int32) (mt sn wt : Int32) (ib : Bool) : c_lf (uD S d mo mt sn wt ib) = c_lf S := rfl
theorem uD_ow (S : CS) (d : Nat) (mo : Nat → Int32) (mt sn wt : Int32) (ib : Bool) : c_ow (uD S d mo mt sn wt ib) = c_ow S := rfl
theorem uD_re (S : CS) (d : Nat) (mo : Nat → Int32) (mt sn wt : Int32) (ib : Bool) : c_re (uD S d mo mt sn wt ib) = c_re S := rfl
theorem uK_ct (S : CS) (ct : Nat) (nm td : Nat → Nat) (vl : Nat → Int32) (sd : Nat → Bool) : c_ct (uK S ct nm td vl sd) = ct := rfl
theorem uK_nm (S : CS) (ct : Nat) (nm td : Nat → Nat) (vl : Nat → Int32) (sd : Nat → Bool) : c_nm (uK S ct nm td vl sd) = nm := rfl
theorem uK_td (S : CS) (ct : Nat) (nm td : Nat → Nat) (vl : Nat → Int32) (sd : Nat → Bool) : c_td (uK S ct nm td vl sd) = td := rfl
theorem uK_vl (S : CS) (ct : Nat) (nm td : Nat → Nat) (vl : Nat → Int32) (sd : Nat → Bool) : c_vl (uK S ct nm td vl sd) = vl := rfl
theorem uK_sd (S : CS) (ct : Nat) (nm td : Nat → Nat) (vl : Nat → Int32) (sd : Nat → Bool) : c_sd (uK S ct nm td vl sd) = sd := rfl
theorem uK_mo (S : CS) (ct : Nat) (nm td : Nat → Nat) (vl : Nat → Int32) (sd : Nat → Bool) : c_mo (uK S ct nm td vl sd) = c_mo S := rfl
theorem uK_mt (S : CS) (ct : Nat) (nm td : Nat → Nat) (vl : Nat → Int32) (sd : Nat → Bool) : c_mt (uK S ct nm td vl sd) = c_mt S := rfl
theorem uK_sn (S : CS) (ct : Nat) (nm td : Nat → Nat) (vl : Nat → Int32) (sd : Nat → Bool) : c_sn (uK S ct nm td vl sd) = c_sn S := rfl
theorem uK_wt (S : CS) (ct : Nat) (nm td : Nat → Nat) (vl : Nat → Int32) (sd : Nat → Bool) : c_wt (uK S ct nm td vl sd) = c_wt S := rfl
theorem uK_ib (S : CS) (ct : Nat) (nm td : Nat → Nat) (vl : Nat → Int32) (sd : Nat → Bool) : c_ib (uK S ct nm td vl sd) = c_ib S := rfl
theorem uK_mk (S : CS) (ct : Nat) (nm td : Nat → Nat) (vl : Nat → Int32) (sd : Nat → Bool) : c_mk (uK S ct nm td vl sd) = c_mk S := rfl
theorem uK_lf (S : CS) (ct : Nat) (nm td : Nat → Nat) (vl : Nat → Int32) (sd : Nat → Bool) : c_lf (uK S ct nm td vl sd) = c_lf S := rfl
theorem uK_ow (S : CS) (ct : Nat) (nm td : Nat → Nat) (vl : Nat → Int32) (sd : Nat → Bool) : c_ow (uK S ct nm td vl sd) = c_ow S := rfl
theorem uK_re (S : CS) (ct : Nat) (nm td : Nat → Nat) (vl : Nat → Int32) (sd : Nat → Bool) : c_re (uK S ct nm td vl sd) = c_re S := rfl
theorem rep_uT {cA : Nat → ClassId} {adr : Nat → Nat} {S : CS} {E E2 : Nat → va_E} (hR : Rep cA adr S E) {t mk lf : Nat} {ow re : Nat → Int32} (ht : t < 5)
    (h0 : E2 (15 + 3 * t) = .inr (1, [.ref (adr (15 + 3 * t + 1)), .ref (adr (15 + 3 * t + 2)), .int (nI mk), .int (nI lf)])) (h1 : E2 (15 + 3 * t + 1) = .inl (cA 0, 6, .inl ow)) (h2 : E2 (15 + 3 * t + 2) = .inl (cA 0, 6, .inl re))
    (hF : ∀ j, j ≠ 15 + 3 * t → j ≠ 15 + 3 * t + 1 → j ≠ 15 + 3 * t + 2 → E2 j = E j) (hmk2 : mk ≤ 6) (hlf2 : lf ≤ 3) : Rep cA adr (uT S t mk lf ow re) E2 := by
  obtain ⟨hE0, hE1, hE2, hK0, hK1, hK2, hK3, hK4, ⟨hdv, hE8⟩, hDk, hTl, hct, hnm, htd, hmk, hlf⟩ := hR
  refine ⟨(hF 0 (by omega) (by omega) (by omega)).trans hE0, (hF 1 (by omega) (by omega) (by omega)).trans hE1, (hF 2 (by omega) (by omega) (by omega)).trans hE2, (hF 3 (by omega) (by omega) (by omega)).trans hK0, (hF (3 + 1) (by omega) (by omega) (by omega)).trans hK1, (hF (3 + 2) (by omega) (by omega) (by omega)).trans hK2, (hF (3 + 3) (by omega) (by omega) (by omega)).trans hK3, (hF (3 + 4) (by omega) (by omega) (by omega)).trans hK4, ⟨hdv, (hF 8 (by omega) (by omega) (by omega)).trans hE8⟩, fun d hd => ⟨(hF _ (by omega) (by omega) (by omega)).trans (hDk d hd).1, (hF _ (by omega) (by omega) (by omega)).trans (hDk d hd).2⟩, fun t' ht' => ?_, hct, hnm, htd, fun t' ht' => ?_, fun t' ht' => ?_⟩
  · by_cases e : t' = t
    · subst e
      refine ⟨?_, ?_, ?_⟩
      · rw [h0, uT_mk, uT_lf, upN_self, upN_self]
      · rw [h1, uT_ow, va_up_self]
      · rw [h2, uT_re, va_up_self]
    · obtain ⟨a0, a1, a2⟩ := hTl t' ht'
      refine ⟨?_, ?_, ?_⟩
      · rw [hF _ (by omega) (by omega) (by omega), a0, uT_mk, uT_lf, upN_ne _ _ e, upN_ne _ _ e]
      · rw [hF _ (by omega) (by omega) (by omega), a1, uT_ow, va_up_ne _ _ e]
      · rw [hF _ (by omega) (by omega) (by omega), a2, uT_re, va_up_ne _ _ e]
  · show upN (c_mk S) t mk t' ≤ 6
    unfold upN; split
    · exact hmk2
    · exact hmk t' ht'
  · show upN (c_lf S) t lf t' ≤ 3
    unfold upN; split
    · exact hlf2
    · exact hlf t' ht'
theorem rep_uD {cA : Nat → ClassId} {adr : Nat → Nat} {S : CS} {E E2 : Nat → va_E} (hR : Rep cA adr S E) {d : Nat} {mo : Nat → Int32} {mt sn wt : Int32} {ib : Bool} (hd : d < 3)
    (h0 : E2 (9 + 2 * d) = .inr (0, [.ref (adr (9 + 2 * d + 1)), .int mt, .int sn, .int wt, .int (bI ib)])) (h1 : E2 (9 + 2 * d + 1) = .inl (cA 0, 120, .inl mo))
    (hF : ∀ j, j ≠ 9 + 2 * d → j ≠ 9 + 2 * d + 1 → E2 j = E j) : Rep cA adr (uD S d mo mt sn wt ib) E2 := by
  obtain ⟨hE0, hE1, hE2, hK0, hK1, hK2, hK3, hK4, ⟨hdv, hE8⟩, hDk, hTl, hct, hnm, htd, hmk, hlf⟩ := hR
  refine ⟨(hF 0 (by omega) (by omega)).trans hE0, (hF 1 (by omega) (by omega)).trans hE1, (hF 2 (by omega) (by omega)).trans hE2, (hF 3 (by omega) (by omega)).trans hK0, (hF (3 + 1) (by omega) (by omega)).trans hK1, (hF (3 + 2) (by omega) (by omega)).trans hK2, (hF (3 + 3) (by omega) (by omega)).trans hK3, (hF (3 + 4) (by omega) (by omega)).trans hK4, ⟨hdv, (hF 8 (by omega) (by omega)).trans hE8⟩, fun d' hd' => ?_, fun t ht => ⟨(hF _ (by omega) (by omega)).trans (hTl t ht).1, (hF _ (by omega) (by omega)).trans (hTl t ht).2.1, (hF _ (by omega) (by omega)).trans (hTl t ht).2.2⟩, hct, hnm, htd, hmk, hlf⟩
  by_cases e : d' = d
  · subst e
    refine ⟨?_, ?_⟩
    · rw [h0, uD_mt, uD_sn, uD_wt, uD_ib, va_up_self, va_up_self, va_up_self, va_up_self]
    · rw [h1, uD_mo, va_up_self]
  · obtain ⟨a0, a1⟩ := hDk d' hd'
    refine ⟨?_, ?_⟩
    · rw [hF _ (by omega) (by omega), a0, uD_mt, uD_sn, uD_wt, uD_ib, va_up_ne _ _ e, va_up_ne _ _ e, va_up_ne _ _ e, va_up_ne _ _ e]
    · rw [hF _ (by omega) (by omega), a1, uD_mo, va_up_ne _ _ e]
theorem rep_uK {cA : Nat → ClassId} {adr : Nat → Nat} {S : CS} {E E2 : Nat → va_E} (hR : Rep cA adr S E) {ct : Nat} {nm td : Nat → Nat} {vl : Nat → Int32} {sd : Nat → Bool}
    (h0 : E2 3 = .inr (2, [.ref (adr (3 + 1)), .ref (adr (3 + 2)), .ref (adr (3 + 3)), .ref (adr (3 + 4)), .int (nI ct)])) (h1 : E2 (3 + 1) = .inl (cA 0, 120, .inl (fun j => nI (nm j)))) (h2 : E2 (3 + 2) = .inl (cA 0, 120, .inl (fun j => nI (td j)))) (h3 : E2 (3 + 3) = .inl (cA 0, 120, .inl vl)) (h4 : E2 (3 + 4) = .inl (cA 1, 120, .inl (fun j => bI (sd j))))
    (hF : ∀ j, j ≠ 3 → j ≠ 3 + 1 → j ≠ 3 + 2 → j ≠ 3 + 3 → j ≠ 3 + 4 → E2 j = E j) (hct2 : ct ≤ 120) (hnm2 : ∀ j, nm j < 2560) (htd2 : ∀ j, td j < 2 ^ 30) : Rep cA adr (uK S ct nm td vl sd) E2 := by
  obtain ⟨hE0, hE1, hE2, hK0, hK1, hK2, hK3, hK4, ⟨hdv, hE8⟩, hDk, hTl, hct, hnm, htd, hmk, hlf⟩ := hR
  exact ⟨(hF 0 (by omega) (by omega) (by omega) (by omega) (by omega)).trans hE0, (hF 1 (by omega) (by omega) (by omega) (by omega) (by omega)).trans hE1, (hF 2 (by omega) (by omega) (by omega) (by omega) (by omega)).trans hE2, h0, h1, h2, h3, h4, ⟨hdv, (hF 8 (by omega) (by omega) (by omega) (by omega) (by omega)).trans hE8⟩, fun d hd => ⟨(hF _ (by omega) (by omega) (by omega) (by omega) (by omega)).trans (hDk d hd).1, (hF _ (by omega) (by omega) (by omega) (by omega) (by omega)).trans (hDk d hd).2⟩, fun t ht => ⟨(hF _ (by omega) (by omega) (by omega) (by omega) (by omega)).trans (hTl t ht).1, (hF _ (by omega) (by omega) (by omega) (by omega) (by omega)).trans (hTl t ht).2.1, (hF _ (by omega) (by omega) (by omega) (by omega) (by omega)).trans (hTl t ht).2.2⟩, hct2, hnm2, htd2, hmk, hlf⟩
def pq (D : va_G) (cA : Nat → ClassId) (lo : Nat) (adr : Nat → Nat) (n : Nat) (E : Nat → va_E) (C : Prop) (r : Int32) (S2 : CS) : Array Value → State → Outcome → State → Prop := fun _ st o t =>
  o = .returned (some (.int r)) ∧ C ∧ ∃ E2 : Nat → va_E, Rep cA adr S2 E2 ∧ (∀ j, 30 ≤ j → E2 j = E j) ∧ va_P D kcl (wl adr n E2) t.heap ∧ va_F (fun q => lo ≤ q) st t
def k_rest (S : CS) (t : Int32) : Nat := if inN t 5 then (if 3 ≤ c_lf S t.toNatClampNeg then 2 else 0) else 1
def r_rest (S : CS) (t : Int32) : Int32 := nI (c_lf S t.toNatClampNeg + 1)
def s_rest (S : CS) (t : Int32) : CS := uT S t.toNatClampNeg (c_mk S t.toNatClampNeg) (c_lf S t.toNatClampNeg + 1) (c_ow S t.toNatClampNeg) (c_re S t.toNatClampNeg)
def c_fol (S : CS) (t : Nat) (a b : Int32) : Bool := decide (c_mk S t = 0) || (decide (c_ow S t (c_mk S t - 1) < a) && decide (c_re S t (c_mk S t - 1) ≤ b))
def k_mark (S : CS) (t a b : Int32) : Nat := if inN t 5 then (if 6 ≤ c_mk S t.toNatClampNeg then 2 else if inN a 1000001 && inN b 1000001 && c_fol S t.toNatClampNeg a b then 0 else 3) else 1
def r_mark (S : CS) (t : Int32) : Int32 := nI (c_mk S t.toNatClampNeg + 1)
def s_mark (S : CS) (t a b : Int32) : CS := uT S t.toNatClampNeg (c_mk S t.toNatClampNeg + 1) (c_lf S t.toNatClampNeg) (upd (c_ow S t.toNatClampNeg) (c_mk S t.toNatClampNeg) a) (upd (c_re S t.toNatClampNeg) (c_mk S t.toNatClampNeg) b)
def tk (S : CS) (d j : Nat) : CS := uD S d (upd (c_mo S d) j (if c_ib S d then -1 else c_mt S d + 1)) (if c_ib S d then c_mt S d else c_mt S d + 1) (if c_ib S d then c_sn S d else c_sn S d + 1) (if c_ib S d then c_wt S d + 1 else c_wt S d) (c_ib S d)
def eb (S : CS) (d : Nat) : CS := uD S d (if c_wt S d = 0 then c_mo S d else fun j => if j < 120 ∧ c_mo S d j = -1 then c_mt S d + 1 else c_mo S d j) (if c_wt S d = 0 then c_mt S d else c_mt S d + 1) (if c_wt S d = 0 then c_sn S d else c_sn S d + c_wt S d) 0 false
def k_bat (S : CS) (d : Int32) (on : Bool) : Nat := if inN d 3 then (if c_ib S d.toNatClampNeg = on then 2 else 0) else 1
def s_bat (S : CS) (d : Int32) (on : Bool) : CS := if on then uD S d.toNatClampNeg (c_mo S d.toNatClampNeg) (c_mt S d.toNatClampNeg) (c_sn S d.toNatClampNeg) (c_wt S d.toNatClampNeg) true else eb S d.toNatClampNeg
def r_bat (S : CS) (d : Int32) (on : Bool) : Int32 := c_mt (s_bat S d on) d.toNatClampNeg
def jn (S : CS) (d o : Nat) : Nat → CS × Nat
  | 0 => (S, 0)
  | i + 1 => if c_see (jn S d o i).1 o i && !c_has (jn S d o i).1 d i then (tk (jn S d o i).1 d i, (jn S d o i).2 + 1) else jn S d o i
def k_join (_S : CS) (d o : Int32) : Nat := if inN d 3 && inN o 3 && !decide (d = o) then 0 else 1
def s_join (S : CS) (d o : Int32) : CS := (jn S d.toNatClampNeg o.toNatClampNeg (c_ct S)).1
def r_join (S : CS) (d o : Int32) : Int32 := nI (jn S d.toNatClampNeg o.toNatClampNeg (c_ct S)).2
theorem jn_ct {S : CS} {d o i : Nat} : c_ct (jn S d o i).1 = c_ct S := by
  induction i with
  | zero => rfl
  | succ i ih => simp only [jn]; split <;> exact ih
theorem jn_le {S : CS} {d o i : Nat} : (jn S d o i).2 ≤ i := by
  induction i with
  | zero => exact Nat.le_refl _
  | succ i ih =>
    simp only [jn]
    split
    · show (jn S d o i).2 + 1 ≤ i + 1; omega
    · omega
def kth (S : CS) (a q : Nat) : Option Nat := fiB (fun j => decide (c_nm S j = a) && decide (ctB (fun j => decide (c_nm S j = a)) j = q)) (c_ct S)
def k_set (S : CS) (x k : Int32) : Nat := if nOK x && decide (0 ≤ k) then (if kth S x.toNatClampNeg k.toNatClampNeg = none then 1 else 0) else 1
def s_set (S : CS) (x k : Int32) : CS := uK S (c_ct S) (c_nm S) (c_td S) (c_vl S) (fun j => if j < c_ct S ∧ c_nm S j = c_nm S ((kth S x.toNatClampNeg k.toNatClampNeg).getD 0) then decide (j = (kth S x.toNatClampNeg k.toNatClampNeg).getD 0) else c_sd S j)
def r_set (S : CS) (x k : Int32) : Int32 := c_vl S ((kth S x.toNatClampNeg k.toNatClampNeg).getD 0)
def t_nm (S : CS) (t : Nat) (b : Nat) : Nat := t * 512 + c_lf S t * 128 + b / 2 ^ 23 % 128
def t_fd (S : CS) (t b : Nat) (v : Int32) : Option Nat := fiB (fun j => decide (c_nm S j = t_nm S t b) && decide (c_td S j = b) && decide (c_vl S j = v)) (c_ct S)
def t_ad (S : CS) (t b : Nat) (v : Int32) : CS := if t_fd S t b v = none then uK S (c_ct S + 1) (upN (c_nm S) (c_ct S) (t_nm S t b)) (upN (c_td S) (c_ct S) b) (upd (c_vl S) (c_ct S) v) (c_sd S) else S
def t_ix (S : CS) (t b : Nat) (v : Int32) : Nat := (t_fd S t b v).getD (c_ct S)
def k_tell (S : CS) (d t : Int32) (x : Int64) (v : Int32) : Nat := if inN d 3 && inN t 5 then (if tOK x then (if t_fd S t.toNatClampNeg (tN x) v = none ∧ 120 ≤ c_ct S then 3 else 0) else 2) else 1
def hasT (S : CS) (d t b : Nat) (v : Int32) : Bool := c_has (t_ad S t b v) d (t_ix S t b v) && !decide (t_fd S t b v = none)
def r_tell (S : CS) (d t b : Nat) (v : Int32) : Int32 := if hasT S d t b v then 1 else if anB (fun r => c_rv (t_ad S t b v) (t_ix S t b v) r && c_has (t_ad S t b v) d r) (c_ct (t_ad S t b v)) then 2 else 0
def s_tell (S : CS) (d t b : Nat) (v : Int32) : CS := if hasT S d t b v then t_ad S t b v else tk (t_ad S t b v) d (t_ix S t b v)
end
section
set_option maxHeartbeats 4000000 in
set_option maxRecDepth 100000 in
theorem cX3_restart_x {l : Launch} {D : va_G} {cA : Nat → ClassId} {adr : Nat → Nat} {n : Nat} {E : Nat → va_E} {sa : Nat → Nat} {lo : Nat} (hls : l.stackTraces = false) (hAd : wd_ad lo n adr) {S : CS} (hn : 30 ≤ n) (hR : Rep cA adr S E) (tt : Int32) : vx_Met l yX3_restart (.code yX3_restart cX3_restart 3 (some .int) :: lw_G) ({ frames := 7, cells := 2, slots := 12, locals := 102 } : Room) (va_Pc [.ref (adr 0), .int tt] (wdX D (kty cA) sa lo adr n E)) (pq D cA lo adr n E (k_rest S tt = 0) (r_rest S tt) (s_rest S tt)) (xT (fun X => (k_rest S tt = 1 ∧ X = nIOB) ∨ (k_rest S tt = 2 ∧ X = nISE))) 2 12 (fun q => lo ≤ q) := by
  refine vx_ofW (cc := cX3_restart) (maxL := 3) (ret := (some .int)) (by decide) rfl ?_
  intro p e s m args below meth c s₁ B hml hno hv
  obtain ⟨rfl, hP, hN, hX⟩ := hv
  have hx := B.exec
  have hb := B.bytes
  have hr := B.returns
  have hG : ∀ w ∈ lw_G, w.before _ s = true := fun w h => atoms_spec (ws := _ :: lw_G) B.pre w (List.mem_cons_of_mem _ h)
  have hown : s.vm.findClass RX3 = some m.cls := findClass_of_methodNamed B.named
  have hlocks := B.notSynchronized
  have hK := hN.1
  have hS : va_S (fun q => lo ≤ q) s.heap s.heap [] := va_S.rf
  have hl := lv_entry ([.ref (adr 0), .int tt]) (n := 3) (Nat.le_of_ble_eq_true rfl)
  rw [lg_entry_eq]
  generalize (lg_sl ([.ref (adr 0), .int tt]) ++ List.replicate (3 - (lg_sl ([.ref (adr 0), .int tt])).length) Slot.unset).toArray = ls at hl ⊢
  have hl : lv_has ls 3 [(0, .ref (adr 0)), (1, .int tt)] := hl
  obtain ⟨hE0, hE1, hE2, hK0, hK1, hK2, hK3, hK4, ⟨hdv, hE8⟩, hDk, hTl, hct, hnm, htd, hmk, hlf⟩ := id hR
  have h30 : ∀ j, 30 ≤ j → E j = E j := fun _ _ => rfl
  refine lv_iload_n hx hb dX3_restart_0 rfl (lv_at hl 1 rfl) ?_
  refine wx_S (rest := []) hx hb hml hown hG hN hX hP (cX3_needTeller_x hls _) (cwS 1 hG (gS g_122 g_123 g_1 g_124) rfl rfl rfl (by decide +kernel) ⟨(Nat.le_of_ble_eq_true rfl), (Nat.le_of_ble_eq_true rfl)⟩) rfl hl.1 rfl (Nat.le_of_ble_eq_true rfl) dX3_restart_1 ⟨(Nat.le_of_ble_eq_true rfl), (Nat.le_of_ble_eq_true rfl)⟩ hno hlocks (Nat.le_of_ble_eq_true rfl) (Nat.le_of_ble_eq_true rfl) (fun X h => Or.inl ⟨by unfold k_rest; rw [h.2]; rfl, h.1⟩) (fun hC => ?_)
  have hT9 := hC
  obtain ⟨t, ht, rfl⟩ := inN_of hC (by decide)
  obtain ⟨hT0, hT1, hT2⟩ := hTl t ht
  refine lv_aload_n hx hb dX3_restart_4 rfl (lv_at hl 0 rfl) ?_
  refine va_get (D := D) (ci := 3) (v := .ref (adr 1)) (C := RX3) (T := TX3) (N := 4) hx hb hG inG_X3 hown hK hP 0 (wl_at (by omega) hE0) rfl 0 (by decide) (hG _ g_99) (fun _ h9 => h9) rfl dX3_restart_5 ?_
  refine lv_iload_n hx hb dX3_restart_8 rfl (lv_at hl 1 rfl) ?_
  refine wn_ald (j := t) (g := fun j => 15 + 3 * j) hx hb hK hP 2 (by omega) hE1 rfl (by omega) (by decide) dX3_restart_9 ?_
  refine lv_astore_n (lv' := [(2, .ref (adr (15 + 3 * t))), (0, .ref (adr 0)), (1, .int (nI t))]) hx hb dX3_restart_10 rfl hl (by decide) rfl (fun ls hl => ?_)
  refine lv_aload_n hx hb dX3_restart_11 rfl (lv_at hl 0 rfl) ?_
  refine va_get (D := D) (ci := 1) (v := .int (nI (c_lf S t))) (C := RX1) (T := TX1) (N := 4) hx hb hG inG_X1 hown hK hP (15 + 3 * t) (wl_at (by omega) hT0) rfl 3 (by decide) (hG _ g_64) (fun _ h9 => h9) rfl dX3_restart_12 ?_
  have blf2 := hlf t ht
  refine lv_iconst (v := 3) hx hb dX3_restart_15 (by decide) ?_
  refine lv_icmp_lt (tgt := 29) hx hb dX3_restart_16 (by decide) (fun c16 => ?_) (fun c16 => ?_)
  · have n16 : (c_lf S t) < 3 := (nI_ltI (a := (c_lf S t)) (b := 3) (by omega) (by omega)).mp c16
    have blf := hlf t ht
    refine lv_aload_n hx hb dX3_restart_29 rfl (lv_at hl 0 rfl) ?_
    refine lv_dup hx hb dX3_restart_30 rfl ?_
    refine va_get (D := D) (ci := 1) (v := .int (nI (c_lf S t))) (C := RX1) (T := TX1) (N := 4) hx hb hG inG_X1 hown hK hP (15 + 3 * t) (wl_at (by omega) hT0) rfl 3 (by decide) (hG _ g_64) (fun _ h9 => h9) rfl dX3_restart_31 ?_
    refine lv_iconst (v := 1) hx hb dX3_restart_34 (by decide) ?_
    refine lv_iadd hx hb dX3_restart_35 ?_
    have hF : ∀ j, j ≠ 15 + 3 * t → E j = E j := fun j _ => rfl
    refine lv_topi (fun y9 e9 => ?_)
    have e9 : y9 = nI (c_lf S t + 1) := e9.trans (nI_1 _)
    subst e9
    refine wd_put (ci := 1) (C := RX1) (T := TX1) (N := 4) (v := .int (nI (c_lf S t + 1))) (ty := .int) hx hb hG inG_X1 tyX1 tyX1_ok nmX1 hown hK hAd hP hS (k0 := 15 + 3 * t) (by omega) hT0 rfl 3 (by decide) (hG _ g_64) (fun _ h9 => h9) rfl (by decide +kernel) rfl rfl (Nat.le_of_ble_eq_true rfl) dX3_restart_36 (fun H locs hP hS => ?_)
    obtain ⟨E1x, hE1x⟩ : ∃ z, z = va_up E (15 + 3 * t) (.inr (1, [.ref (adr (15 + 3 * t + 1)), .ref (adr (15 + 3 * t + 2)), .int (nI (c_mk S t)), .int (nI (c_lf S t + 1))])) := ⟨_, rfl⟩
    have hP : va_P D kcl (wl adr n E1x) H := by rw [hE1x]; exact hP
    have hE0 := (show E1x 0 = E 0 from by rw [hE1x, va_up_ne _ _ (by omega)]).trans hE0
    have hE1 := (show E1x 1 = E 1 from by rw [hE1x, va_up_ne _ _ (by omega)]).trans hE1
    have hE2 := (show E1x 2 = E 2 from by rw [hE1x, va_up_ne _ _ (by omega)]).trans hE2
    have hK0 := (show E1x 3 = E 3 from by rw [hE1x, va_up_ne _ _ (by omega)]).trans hK0
    have hK1 := (show E1x (3 + 1) = E (3 + 1) from by rw [hE1x, va_up_ne _ _ (by omega)]).trans hK1
    have hK2 := (show E1x (3 + 2) = E (3 + 2) from by rw [hE1x, va_up_ne _ _ (by omega)]).trans hK2
    have hK3 := (show E1x (3 + 3) = E (3 + 3) from by rw [hE1x, va_up_ne _ _ (by omega)]).trans hK3
    have hK4 := (show E1x (3 + 4) = E (3 + 4) from by rw [hE1x, va_up_ne _ _ (by omega)]).trans hK4
    have hT0 : E1x (15 + 3 * t) = .inr (1, [.ref (adr (15 + 3 * t + 1)), .ref (adr (15 + 3 * t + 2)), .int (nI (c_mk S t)), .int (nI (c_lf S t + 1))]) := by rw [hE1x, va_up_self]
    have hT1 := (show E1x (15 + 3 * t + 1) = E (15 + 3 * t + 1) from by rw [hE1x, va_up_ne _ _ (by omega)]).trans hT1
    have hT2 := (show E1x (15 + 3 * t + 2) = E (15 + 3 * t + 2) from by rw [hE1x, va_up_ne _ _ (by omega)]).trans hT2
    have hF : ∀ j, j ≠ 15 + 3 * t → E1x j = E j := fun j z0 => (show E1x j = E j from by rw [hE1x, va_up_ne _ _ z0]).trans (hF j z0)
    have fF : ∀ j, j ≠ 15 + 3 * t → j ≠ 15 + 3 * t + 1 → j ≠ 15 + 3 * t + 2 → E1x j = E j := fun j z0 _ _ => hF j z0
    have hR : Rep cA adr (uT S t (c_mk S t) (c_lf S t + 1) (c_ow S t) (c_re S t)) E1x := rep_uT hR ht hT0 hT1 hT2 fF (hmk t ht) (by omega)
    have h30 : ∀ j, 30 ≤ j → E1x j = E j := fun j hj => (fF j (by omega) (by omega) (by omega)).trans (h30 j hj)
    obtain ⟨S1, hS1⟩ : ∃ z9, z9 = uT S t (c_mk S t) (c_lf S t + 1) (c_ow S t) (c_re S t) := ⟨_, rfl⟩
    rw [← hS1] at hR
    obtain ⟨hE0, hE1, hE2, hK0, hK1, hK2, hK3, hK4, ⟨hdv, hE8⟩, hDk, hTl, hct, hnm, htd, hmk, hlf⟩ := id hR
    obtain ⟨hT0, hT1, hT2⟩ := hTl t ht
    refine lv_aload_n hx hb dX3_restart_39 rfl (lv_at hl 0 rfl) ?_
    refine va_get (D := D) (ci := 1) (v := .int (nI (c_lf S1 t))) (C := RX1) (T := TX1) (N := 4) hx hb hG inG_X1 hown hK hP (15 + 3 * t) (wl_at (by omega) hT0) rfl 3 (by decide) (hG _ g_64) (fun _ h9 => h9) rfl dX3_restart_40 ?_
    refine W.widen (k := 2) (n := 12) (Nat.le_of_ble_eq_true rfl) (Nat.le_of_ble_eq_true rfl) ?_
    exact vx_ret (W.iret (v := nI (c_lf S1 t)) hx hb hr (fun u9 ht _ => ⟨congrArg (fun z => Outcome.returned (some (Value.int z))) (by unfold r_rest; rw [hS1, uT_lf, upN_self, nI_clamp (by omega)]), by unfold k_rest; rw [hT9, nI_clamp (by omega)]; simp only [if_true]; rw [if_neg (by omega)], E1x, (by unfold s_rest; rw [nI_clamp (by omega), ← hS1]; exact hR), h30, by rw [ht]; exact hP, hS.F ht⟩) hS.2.2 dX3_restart_43)
  · have n16 : ¬ (c_lf S t) < 3 := fun h => c16 ((nI_ltI (a := (c_lf S t)) (b := 3) (by omega) (by omega)).mpr h)
    exact th_ISE hx hb hls hown hG hN hX (hl.1.trans hml.symm) 8 rfl dX3_restart_19 dX3_restart_22 dX3_restart_23 dX3_restart_25 dX3_restart_28 hno (Nat.le_of_ble_eq_true rfl) (Nat.le_of_ble_eq_true rfl) (Nat.le_of_ble_eq_true rfl) (Nat.le_of_ble_eq_true rfl) hlocks (Or.inr ⟨by unfold k_rest; rw [hT9, nI_clamp (by omega)]; simp only [if_true]; rw [if_pos (by omega)], rfl⟩) (Nat.le_of_ble_eq_true rfl) (Nat.le_of_ble_eq_true rfl)

set_option maxHeartbeats 4000000 in
set_option maxRecDepth 100000 in
theorem cX3_mark_x {l : Launch} {D : va_G} {cA : Nat → ClassId} {adr : Nat → Nat} {n : Nat} {E : Nat → va_E} {sa : Nat → Nat} {lo : Nat} (hls : l.stackTraces = false) (hAd : wd_ad lo n adr) {S : CS} (hn : 30 ≤ n) (hR : Rep cA adr S E) (tt a b : Int32) : vx_Met l yX3_mark (.code yX3_mark cX3_mark 5 (some .int) :: lw_G) ({ frames := 7, cells := 4, slots := 24, locals := 102 } : Room) (va_Pc [.ref (adr 0), .int tt, .int a, .int b] (wdX D (kty cA) sa lo adr n E)) (pq D cA lo adr n E (k_mark S tt a b = 0) (r_mark S tt) (s_mark S tt a b)) (xT (fun X => (k_mark S tt a b = 1 ∧ X = nIOB) ∨ (k_mark S tt a b = 2 ∧ X = nISE) ∨ (k_mark S tt a b = 3 ∧ X = nIAE))) 4 24 (fun q => lo ≤ q) := by
  refine vx_ofW (cc := cX3_mark) (maxL := 5) (ret := (some .int)) (by decide) rfl ?_
  intro p e s m args below meth c s₁ B hml hno hv
  obtain ⟨rfl, hP, hN, hX⟩ := hv
  have hx := B.exec
  have hb := B.bytes
  have hr := B.returns
  have hG : ∀ w ∈ lw_G, w.before _ s = true := fun w h => atoms_spec (ws := _ :: lw_G) B.pre w (List.mem_cons_of_mem _ h)
  have hown : s.vm.findClass RX3 = some m.cls := findClass_of_methodNamed B.named
  have hlocks := B.notSynchronized
  have hK := hN.1
  have hS : va_S (fun q => lo ≤ q) s.heap s.heap [] := va_S.rf
  have hl := lv_entry ([.ref (adr 0), .int tt, .int a, .int b]) (n := 5) (Nat.le_of_ble_eq_true rfl)
  rw [lg_entry_eq]
  generalize (lg_sl ([.ref (adr 0), .int tt, .int a, .int b]) ++ List.replicate (5 - (lg_sl ([.ref (adr 0), .int tt, .int a, .int b])).length) Slot.unset).toArray = ls at hl ⊢
  have hl : lv_has ls 5 [(0, .ref (adr 0)), (1, .int tt), (2, .int a), (3, .int b)] := hl
  obtain ⟨hE0, hE1, hE2, hK0, hK1, hK2, hK3, hK4, ⟨hdv, hE8⟩, hDk, hTl, hct, hnm, htd, hmk, hlf⟩ := id hR
  have h30 : ∀ j, 30 ≤ j → E j = E j := fun _ _ => rfl
  refine lv_iload_n hx hb dX3_mark_0 rfl (lv_at hl 1 rfl) ?_
  refine wx_S (rest := []) hx hb hml hown hG hN hX hP (cX3_needTeller_x hls _) (cwS 1 hG (gS g_122 g_123 g_1 g_124) rfl rfl rfl (by decide +kernel) ⟨(Nat.le_of_ble_eq_true rfl), (Nat.le_of_ble_eq_true rfl)⟩) rfl hl.1 rfl (Nat.le_of_ble_eq_true rfl) dX3_mark_1 ⟨(Nat.le_of_ble_eq_true rfl), (Nat.le_of_ble_eq_true rfl)⟩ hno hlocks (Nat.le_of_ble_eq_true rfl) (Nat.le_of_ble_eq_true rfl) (fun X h => Or.inl ⟨by unfold k_mark; rw [h.2]; rfl, h.1⟩) (fun hC => ?_)
  have hT9 := hC
  obtain ⟨t, ht, rfl⟩ := inN_of hC (by decide)
  obtain ⟨hT0, hT1, hT2⟩ := hTl t ht
  refine lv_aload_n hx hb dX3_mark_4 rfl (lv_at hl 0 rfl) ?_
  refine va_get (D := D) (ci := 3) (v := .ref (adr 1)) (C := RX3) (T := TX3) (N := 4) hx hb hG inG_X3 hown hK hP 0 (wl_at (by omega) hE0) rfl 0 (by decide) (hG _ g_99) (fun _ h9 => h9) rfl dX3_mark_5 ?_
  refine lv_iload_n hx hb dX3_mark_8 rfl (lv_at hl 1 rfl) ?_
  refine wn_ald (j := t) (g := fun j => 15 + 3 * j) hx hb hK hP 2 (by omega) hE1 rfl (by omega) (by decide) dX3_mark_9 ?_
  refine lv_astore (lv' := [(4, .ref (adr (15 + 3 * t))), (0, .ref (adr 0)), (1, .int (nI t)), (2, .int a), (3, .int b)]) hx hb dX3_mark_10 hl (by decide) rfl (fun ls hl => ?_)
  refine lv_aload hx hb dX3_mark_12 (lv_at hl 0 rfl) ?_
  have bmk := hmk t ht
  refine va_get (D := D) (ci := 1) (v := .int (nI (c_mk S t))) (C := RX1) (T := TX1) (N := 4) hx hb hG inG_X1 hown hK hP (15 + 3 * t) (wl_at (by omega) hT0) rfl 2 (by decide) (hG _ g_63) (fun _ h9 => h9) rfl dX3_mark_14 ?_
  refine lv_bipush (v := 6) hx hb dX3_mark_17 (by decide) ?_
  refine lv_icmp_lt (tgt := 32) hx hb dX3_mark_19 (by decide) (fun c19 => ?_) (fun c19 => ?_)
  · have n19 : (c_mk S t) < 6 := (nI_ltI (a := (c_mk S t)) (b := 6) (by omega) (by omega)).mp c19
    refine lv_iload_n hx hb dX3_mark_32 rfl (lv_at hl 3 rfl) ?_
    refine wx_S (rest := []) hx hb hml hown hG hN hX hP (cX3_needTime_x hls _) (cwS 1 hG (gS g_210 g_211 g_1 g_212) rfl rfl rfl (by decide +kernel) ⟨(Nat.le_of_ble_eq_true rfl), (Nat.le_of_ble_eq_true rfl)⟩) rfl hl.1 rfl (Nat.le_of_ble_eq_true rfl) dX3_mark_33 ⟨(Nat.le_of_ble_eq_true rfl), (Nat.le_of_ble_eq_true rfl)⟩ hno hlocks (Nat.le_of_ble_eq_true rfl) (Nat.le_of_ble_eq_true rfl) (fun X h => Or.inr (Or.inr ⟨by unfold k_mark; rw [hT9, nI_clamp (by omega)]; simp only [if_true]; rw [if_neg (by omega), h.2]; rfl, h.1⟩)) (fun hC => ?_)
    have hA9 := hC
    refine lv_iload_n hx hb dX3_mark_36 rfl (lv_at hl 4 rfl) ?_
    refine wx_S (rest := []) hx hb hml hown hG hN hX hP (cX3_needTime_x hls _) (cwS 1 hG (gS g_210 g_211 g_1 g_212) rfl rfl rfl (by decide +kernel) ⟨(Nat.le_of_ble_eq_true rfl), (Nat.le_of_ble_eq_true rfl)⟩) rfl hl.1 rfl (Nat.le_of_ble_eq_true rfl) dX3_mark_37 ⟨(Nat.le_of_ble_eq_true rfl), (Nat.le_of_ble_eq_true rfl)⟩ hno hlocks (Nat.le_of_ble_eq_true rfl) (Nat.le_of_ble_eq_true rfl) (fun X h => Or.inr (Or.inr ⟨by unfold k_mark; rw [hT9, nI_clamp (by omega)]; simp only [if_true]; rw [if_neg (by omega), h.2, Bool.and_false]; rfl, h.1⟩)) (fun hC => ?_)
    have hB9 := hC
    refine lv_aload hx hb dX3_mark_40 (lv_at hl 0 rfl) ?_
    refine lv_iload_n hx hb dX3_mark_42 rfl (lv_at hl 3 rfl) ?_
    refine lv_iload_n hx hb dX3_mark_43 rfl (lv_at hl 4 rfl) ?_
    refine wn_rV (rest := []) hx hb hml hown hG hN hP (cX1_canFollow_r (by omega) (hmk t ht) hT0 hT1 hT2 a b) (cwV 2 hG (gV g_230 g_231 g_232 g_3 g_233) rfl rfl rfl (by decide +kernel) ⟨Nat.le_of_ble_eq_true rfl, Nat.le_of_ble_eq_true rfl⟩) (by omega) hT0 rfl rfl hl.1 rfl (Nat.le_of_ble_eq_true rfl) dX3_mark_44 ⟨Nat.le_of_ble_eq_true rfl, Nat.le_of_ble_eq_true rfl⟩ ?_
    refine lv_if_ne (tgt := 60) hx hb dX3_mark_47 (by decide) (fun c47 => ?_) (fun c47 => ?_)
    · have n47 : (c_fol S t a b) = true := bI_1.mp c47
      refine lv_aload hx hb dX3_mark_60 (lv_at hl 0 rfl) ?_
      refine lv_iload_n hx hb dX3_mark_62 rfl (lv_at hl 3 rfl) ?_
      refine lv_iload_n hx hb dX3_mark_63 rfl (lv_at hl 4 rfl) ?_
      refine wn_wV (rest := []) hx hb hml hown hG hN hP hS (cX1_addMark_w hAd (by omega) (hmk t ht) hT0 hT1 hT2 (by omega) a b) (cwV 2 hG (gV g_235 g_236 g_237 g_3 g_238) rfl rfl rfl (by decide +kernel) ⟨Nat.le_of_ble_eq_true rfl, Nat.le_of_ble_eq_true rfl⟩) (by omega) hT0 rfl rfl hl.1 rfl (Nat.le_of_ble_eq_true rfl) dX3_mark_64 ⟨Nat.le_of_ble_eq_true rfl, Nat.le_of_ble_eq_true rfl⟩ (fun F1 H locs hFF hP hS => ?_)
      obtain ⟨f0, f1, f2, fF⟩ := hFF
      have hR : Rep cA adr (uT S t (c_mk S t + 1) (c_lf S t) (upd (c_ow S t) (c_mk S t) a) (upd (c_re S t) (c_mk S t) b)) F1 := rep_uT hR ht f0 f1 f2 fF (by omega) (hlf t ht)
      have h30 : ∀ j, 30 ≤ j → F1 j = E j := fun j hj => (fF j (by omega) (by omega) (by omega)).trans (h30 j hj)
      obtain ⟨S1, hS1⟩ : ∃ z9, z9 = uT S t (c_mk S t + 1) (c_lf S t) (upd (c_ow S t) (c_mk S t) a) (upd (c_re S t) (c_mk S t) b) := ⟨_, rfl⟩
      rw [← hS1] at hR
      obtain ⟨hE0, hE1, hE2, hK0, hK1, hK2, hK3, hK4, ⟨hdv, hE8⟩, hDk, hTl, hct, hnm, htd, hmk, hlf⟩ := id hR
      obtain ⟨hT0, hT1, hT2⟩ := hTl t ht
      refine lv_aload hx hb dX3_mark_67 (lv_at hl 0 rfl) ?_
      refine va_get (D := D) (ci := 1) (v := .int (nI (c_mk S1 t))) (C := RX1) (T := TX1) (N := 4) hx hb hG inG_X1 hown hK hP (15 + 3 * t) (wl_at (by omega) hT0) rfl 2 (by decide) (hG _ g_63) (fun _ h9 => h9) rfl dX3_mark_69 ?_
      refine W.widen (k := 4) (n := 24) (Nat.le_of_ble_eq_true rfl) (Nat.le_of_ble_eq_true rfl) ?_
      exact vx_ret (W.iret (v := nI (c_mk S1 t)) hx hb hr (fun u9 ht _ => ⟨congrArg (fun z => Outcome.returned (some (Value.int z))) (by unfold r_mark; rw [hS1, uT_mk, upN_self, nI_clamp (by omega)]), by unfold k_mark; rw [hT9, nI_clamp (by omega)]; simp only [if_true]; rw [if_neg (by omega), hA9, hB9, show c_fol S t a b = true from n47]; rfl, F1, (by unfold s_mark; rw [nI_clamp (by omega), ← hS1]; exact hR), h30, by rw [ht]; exact hP, hS.F ht⟩) hS.2.2 dX3_mark_72)
    · have n47 : (c_fol S t a b) = false := bI_0.mp c47
      exact th_IAE hx hb hls hown hG hN hX (hl.1.trans hml.symm) 3 rfl dX3_mark_50 dX3_mark_53 dX3_mark_54 dX3_mark_56 dX3_mark_59 hno (Nat.le_of_ble_eq_true rfl) (Nat.le_of_ble_eq_true rfl) (Nat.le_of_ble_eq_true rfl) (Nat.le_of_ble_eq_true rfl) hlocks (Or.inr (Or.inr ⟨by unfold k_mark; rw [hT9, nI_clamp (by omega)]; simp only [if_true]; rw [if_neg (by omega), show c_fol S t a b = false from n47, Bool.and_false]; rfl, rfl⟩)) (Nat.le_of_ble_eq_true rfl) (Nat.le_of_ble_eq_true rfl)
  · have n19 : ¬ (c_mk S t) < 6 := fun h => c19 ((nI_ltI (a := (c_mk S t)) (b := 6) (by omega) (by omega)).mpr h)
    exact th_ISE hx hb hls hown hG hN hX (hl.1.trans hml.symm) 1 rfl dX3_mark_22 dX3_mark_25 dX3_mark_26 dX3_mark_28 dX3_mark_31 hno (Nat.le_of_ble_eq_true rfl) (Nat.le_of_ble_eq_true rfl) (Nat.le_of_ble_eq_true rfl) (Nat.le_of_ble_eq_true rfl) hlocks (Or.inr (Or.inl ⟨by unfold k_mark; rw [hT9, nI_clamp (by omega)]; simp only [if_true]; rw [if_pos (by omega)], rfl⟩)) (Nat.le_of_ble_eq_true rfl) (Nat.le_of_ble_eq_true rfl)

set_option maxHeartbeats 4000000 in
set_option maxRecDepth 100000 in
theorem cX3_batch_x {l : Launch} {D : va_G} {cA : Nat → ClassId} {adr : Nat → Nat} {n : Nat} {E : Nat → va_E} {sa : Nat → Nat} {lo : Nat} (hls : l.stackTraces = false) (hAd : wd_ad lo n adr) {S : CS} (hn : 30 ≤ n) (hR : Rep cA adr S E) (dd : Int32) (on : Bool) : vx_Met l yX3_batch (.code yX3_batch cX3_batch 4 (some .int) :: lw_G) ({ frames := 7, cells := 2, slots := 12, locals := 102 } : Room) (va_Pc [.ref (adr 0), .int dd, .int (bI on)] (wdX D (kty cA) sa lo adr n E)) (pq D cA lo adr n E (k_bat S dd on = 0) (r_bat S dd on) (s_bat S dd on)) (xT (fun X => (k_bat S dd on = 1 ∧ X = nIOB) ∨ (k_bat S dd on = 2 ∧ X = nISE))) 2 12 (fun q => lo ≤ q) := by
  refine vx_ofW (cc := cX3_batch) (maxL := 4) (ret := (some .int)) (by decide) rfl ?_
  intro p e s m args below meth c s₁ B hml hno hv
  obtain ⟨rfl, hP, hN, hX⟩ := hv
  have hx := B.exec
  have hb := B.bytes
  have hr := B.returns
  have hG : ∀ w ∈ lw_G, w.before _ s = true := fun w h => atoms_spec (ws := _ :: lw_G) B.pre w (List.mem_cons_of_mem _ h)
  have hown : s.vm.findClass RX3 = some m.cls := findClass_of_methodNamed B.named
  have hlocks := B.notSynchronized
  have hK := hN.1
  have hS : va_S (fun q => lo ≤ q) s.heap s.heap [] := va_S.rf
  have hl := lv_entry ([.ref (adr 0), .int dd, .int (bI on)]) (n := 4) (Nat.le_of_ble_eq_true rfl)
  rw [lg_entry_eq]
  generalize (lg_sl ([.ref (adr 0), .int dd, .int (bI on)]) ++ List.replicate (4 - (lg_sl ([.ref (adr 0), .int dd, .int (bI on)])).length) Slot.unset).toArray = ls at hl ⊢
  have hl : lv_has ls 4 [(0, .ref (adr 0)), (1, .int dd), (2, .int (bI on))] := hl
  obtain ⟨hE0, hE1, hE2, hK0, hK1, hK2, hK3, hK4, ⟨hdv, hE8⟩, hDk, hTl, hct, hnm, htd, hmk, hlf⟩ := id hR
  have h30 : ∀ j, 30 ≤ j → E j = E j := fun _ _ => rfl
  refine lv_iload_n hx hb dX3_batch_0 rfl (lv_at hl 1 rfl) ?_
  refine wx_S (rest := []) hx hb hml hown hG hN hX hP (cX3_needDesk_x hls _) (cwS 1 hG (gS g_266 g_267 g_1 g_268) rfl rfl rfl (by decide +kernel) ⟨(Nat.le_of_ble_eq_true rfl), (Nat.le_of_ble_eq_true rfl)⟩) rfl hl.1 rfl (Nat.le_of_ble_eq_true rfl) dX3_batch_1 ⟨(Nat.le_of_ble_eq_true rfl), (Nat.le_of_ble_eq_true rfl)⟩ hno hlocks (Nat.le_of_ble_eq_true rfl) (Nat.le_of_ble_eq_true rfl) (fun X h => Or.inl ⟨by unfold k_bat; rw [h.2]; rfl, h.1⟩) (fun hC => ?_)
  have hD9 := hC
  obtain ⟨d, hd, rfl⟩ := inN_of hC (by decide)
  obtain ⟨hD0, hD1⟩ := hDk d hd
  refine lv_aload_n hx hb dX3_batch_4 rfl (lv_at hl 0 rfl) ?_
  refine va_get (D := D) (ci := 3) (v := .ref (adr 2)) (C := RX3) (T := TX3) (N := 4) hx hb hG inG_X3 hown hK hP 0 (wl_at (by omega) hE0) rfl 1 (by decide) (hG _ g_100) (fun _ h9 => h9) rfl dX3_batch_5 ?_
  refine lv_iload_n hx hb dX3_batch_8 rfl (lv_at hl 1 rfl) ?_
  refine wn_ald (j := d) (g := fun j => 9 + 2 * j) hx hb hK hP 3 (by omega) hE2 rfl (by omega) (by decide) dX3_batch_9 ?_
  refine lv_astore_n (lv' := [(3, .ref (adr (9 + 2 * d))), (0, .ref (adr 0)), (1, .int (nI d)), (2, .int (bI on))]) hx hb dX3_batch_10 rfl hl (by decide) rfl (fun ls hl => ?_)
  refine lv_aload_n hx hb dX3_batch_11 rfl (lv_at hl 0 rfl) ?_
  refine va_get (D := D) (ci := 0) (v := .int (bI (c_ib S d))) (C := RX0) (T := TX0) (N := 5) hx hb hG inG_X0 hown hK hP (9 + 2 * d) (wl_at (by omega) hD0) rfl 4 (by decide) (hG _ g_87) (fun _ h9 => h9) rfl dX3_batch_12 ?_
  refine lv_iload_n hx hb dX3_batch_15 rfl (lv_at hl 3 rfl) ?_
  refine lv_icmp_ne (tgt := 29) hx hb dX3_batch_16 (by decide) (fun c16 => ?_) (fun c16 => ?_)
  · have e16 : ¬ c_ib S d = on := fun h => c16 (by rw [h])
    refine lv_iload_n hx hb dX3_batch_29 rfl (lv_at hl 3 rfl) ?_
    refine lv_if_eq (tgt := 41) hx hb dX3_batch_30 (by decide) (fun c30 => ?_) (fun c30 => ?_)
    · have n30 : on = false := bI_0.mp c30
      refine lv_aload_n hx hb dX3_batch_41 rfl (lv_at hl 0 rfl) ?_
      refine wn_wV (rest := []) hx hb hml hown hG hN hP hS (cX0_endBatch_w hAd (by omega) hD0 hD1) (cwV 0 hG (gV g_355 g_356 g_357 g_4 g_358) rfl rfl rfl (by decide +kernel) ⟨Nat.le_of_ble_eq_true rfl, Nat.le_of_ble_eq_true rfl⟩) (by omega) hD0 rfl rfl hl.1 rfl (Nat.le_of_ble_eq_true rfl) dX3_batch_42 ⟨Nat.le_of_ble_eq_true rfl, Nat.le_of_ble_eq_true rfl⟩ (fun F1 H locs hFF hP hS => ?_)
      obtain ⟨f0, f1, fF⟩ := hFF
      have hR : Rep cA adr (eb S d) F1 := rep_uD hR hd f0 f1 fF
      have h30 : ∀ j, 30 ≤ j → F1 j = E j := fun j hj => (fF j (by omega) (by omega)).trans (h30 j hj)
      obtain ⟨S1, hS1⟩ : ∃ z9, z9 = eb S d := ⟨_, rfl⟩
      rw [← hS1] at hR
      obtain ⟨hE0, hE1, hE2, hK0, hK1, hK2, hK3, hK4, ⟨hdv, hE8⟩, hDk, hTl, hct, hnm, htd, hmk, hlf⟩ := id hR
      obtain ⟨hD0, hD1⟩ := hDk d hd
      refine lv_aload_n hx hb dX3_batch_45 rfl (lv_at hl 0 rfl) ?_
      refine va_get (D := D) (ci := 0) (v := .int (c_mt S1 d)) (C := RX0) (T := TX0) (N := 5) hx hb hG inG_X0 hown hK hP (9 + 2 * d) (wl_at (by omega) hD0) rfl 1 (by decide) (hG _ g_81) (fun _ h9 => h9) rfl dX3_batch_46 ?_
      refine W.widen (k := 2) (n := 12) (Nat.le_of_ble_eq_true rfl) (Nat.le_of_ble_eq_true rfl) ?_
      exact vx_ret (W.iret (v := c_mt S1 d) hx hb hr (fun u9 ht _ => ⟨congrArg (fun z => Outcome.returned (some (Value.int z))) (by unfold r_bat s_bat; rw [nI_clamp (by omega), n30, hS1]; rfl), by unfold k_bat; rw [hD9, nI_clamp (by omega)]; simp only [if_true]; rw [if_neg e16], F1, (by unfold s_bat; rw [nI_clamp (by omega), n30]; rw [hS1] at hR; exact hR), h30, by rw [ht]; exact hP, hS.F ht⟩) hS.2.2 dX3_batch_49)
    · have n30 : on = true := bI_1.mp c30
      refine lv_aload_n hx hb dX3_batch_33 rfl (lv_at hl 0 rfl) ?_
      refine lv_iconst (v := 1) hx hb dX3_batch_34 (by decide) ?_
      have hF : ∀ j, j ≠ 9 + 2 * d → E j = E j := fun j _ => rfl
      refine lv_topi (fun y9 e9 => ?_)
      have e9 : y9 = bI true := e9.trans (bI_t.symm)
      subst e9
      refine wd_put (ci := 0) (C := RX0) (T := TX0) (N := 5) (v := .int (bI true)) (ty := .boolean) hx hb hG inG_X0 tyX0 tyX0_ok nmX0 hown hK hAd hP hS (k0 := 9 + 2 * d) (by omega) hD0 rfl 4 (by decide) (hG _ g_87) (fun _ h9 => h9) rfl (by decide +kernel) (bI_nar _) (bI_fit _) (Nat.le_of_ble_eq_true rfl) dX3_batch_35 (fun H locs hP hS => ?_)
      obtain ⟨E2x, hE2x⟩ : ∃ z, z = va_up E (9 + 2 * d) (.inr (0, [.ref (adr (9 + 2 * d + 1)), .int (c_mt S d), .int (c_sn S d), .int (c_wt S d), .int (bI true)])) := ⟨_, rfl⟩
      have hP : va_P D kcl (wl adr n E2x) H := by rw [hE2x]; exact hP
      have hE0 := (show E2x 0 = E 0 from by rw [hE2x, va_up_ne _ _ (by omega)]).trans hE0
      have hE1 := (show E2x 1 = E 1 from by rw [hE2x, va_up_ne _ _ (by omega)]).trans hE1
      have hE2 := (show E2x 2 = E 2 from by rw [hE2x, va_up_ne _ _ (by omega)]).trans hE2
      have hK0 := (show E2x 3 = E 3 from by rw [hE2x, va_up_ne _ _ (by omega)]).trans hK0
      have hK1 := (show E2x (3 + 1) = E (3 + 1) from by rw [hE2x, va_up_ne _ _ (by omega)]).trans hK1
      have hK2 := (show E2x (3 + 2) = E (3 + 2) from by rw [hE2x, va_up_ne _ _ (by omega)]).trans hK2
      have hK3 := (show E2x (3 + 3) = E (3 + 3) from by rw [hE2x, va_up_ne _ _ (by omega)]).trans hK3
      have hK4 := (show E2x (3 + 4) = E (3 + 4) from by rw [hE2x, va_up_ne _ _ (by omega)]).trans hK4
      have hD0 : E2x (9 + 2 * d) = .inr (0, [.ref (adr (9 + 2 * d + 1)), .int (c_mt S d), .int (c_sn S d), .int (c_wt S d), .int (bI true)]) := by rw [hE2x, va_up_self]
      have hD1 := (show E2x (9 + 2 * d + 1) = E (9 + 2 * d + 1) from by rw [hE2x, va_up_ne _ _ (by omega)]).trans hD1
      have hF : ∀ j, j ≠ 9 + 2 * d → E2x j = E j := fun j z0 => (show E2x j = E j from by rw [hE2x, va_up_ne _ _ z0]).trans (hF j z0)
      have fF : ∀ j, j ≠ 9 + 2 * d → j ≠ 9 + 2 * d + 1 → E2x j = E j := fun j z0 _ => hF j z0
      have hR : Rep cA adr (uD S d (c_mo S d) (c_mt S d) (c_sn S d) (c_wt S d) true) E2x := rep_uD hR hd hD0 hD1 fF
      have h30 : ∀ j, 30 ≤ j → E2x j = E j := fun j hj => (fF j (by omega) (by omega)).trans (h30 j hj)
      obtain ⟨S1, hS1⟩ : ∃ z9, z9 = uD S d (c_mo S d) (c_mt S d) (c_sn S d) (c_wt S d) true := ⟨_, rfl⟩
      rw [← hS1] at hR
      obtain ⟨hE0, hE1, hE2, hK0, hK1, hK2, hK3, hK4, ⟨hdv, hE8⟩, hDk, hTl, hct, hnm, htd, hmk, hlf⟩ := id hR
      obtain ⟨hD0, hD1⟩ := hDk d hd
      refine lv_goto (tgt := 45) hx hb dX3_batch_38 (by decide) ?_
      refine lv_aload_n hx hb dX3_batch_45 rfl (lv_at hl 0 rfl) ?_
      refine va_get (D := D) (ci := 0) (v := .int (c_mt S1 d)) (C := RX0) (T := TX0) (N := 5) hx hb hG inG_X0 hown hK hP (9 + 2 * d) (wl_at (by omega) hD0) rfl 1 (by decide) (hG _ g_81) (fun _ h9 => h9) rfl dX3_batch_46 ?_
      refine W.widen (k := 2) (n := 12) (Nat.le_of_ble_eq_true rfl) (Nat.le_of_ble_eq_true rfl) ?_
      exact vx_ret (W.iret (v := c_mt S1 d) hx hb hr (fun u9 ht _ => ⟨congrArg (fun z => Outcome.returned (some (Value.int z))) (by unfold r_bat s_bat; rw [nI_clamp (by omega), n30, hS1]; rfl), by unfold k_bat; rw [hD9, nI_clamp (by omega)]; simp only [if_true]; rw [if_neg e16], E2x, (by unfold s_bat; rw [nI_clamp (by omega), n30]; rw [hS1] at hR; exact hR), h30, by rw [ht]; exact hP, hS.F ht⟩) hS.2.2 dX3_batch_49)
  · have e16 : c_ib S d = on := bI_inj c16
    exact th_ISE hx hb hls hown hG hN hX (hl.1.trans hml.symm) 10 rfl dX3_batch_19 dX3_batch_22 dX3_batch_23 dX3_batch_25 dX3_batch_28 hno (Nat.le_of_ble_eq_true rfl) (Nat.le_of_ble_eq_true rfl) (Nat.le_of_ble_eq_true rfl) (Nat.le_of_ble_eq_true rfl) hlocks (Or.inr ⟨by unfold k_bat; rw [hD9, nI_clamp (by omega)]; simp only [if_true]; rw [if_pos e16], rfl⟩) (Nat.le_of_ble_eq_true rfl) (Nat.le_of_ble_eq_true rfl)

set_option maxHeartbeats 4000000 in
set_option maxRecDepth 100000 in
theorem cX3_settle_x {l : Launch} {D : va_G} {cA : Nat → ClassId} {adr : Nat → Nat} {n : Nat} {E : Nat → va_E} {sa : Nat → Nat} {lo : Nat} (hls : l.stackTraces = false) (hAd : wd_ad lo n adr) {S : CS} (hn : 30 ≤ n) (hR : Rep cA adr S E) (x kk : Int32) : vx_Met l yX3_settle (.code yX3_settle cX3_settle 4 (some .int) :: lw_G) ({ frames := 8, cells := 3, slots := 18, locals := 122 } : Room) (va_Pc [.ref (adr 0), .int x, .int kk] (wdX D (kty cA) sa lo adr n E)) (pq D cA lo adr n E (k_set S x kk = 0) (r_set S x kk) (s_set S x kk)) (xT (fun X => k_set S x kk = 1 ∧ X = nIOB)) 3 18 (fun q => lo ≤ q) := by
  refine vx_ofW (cc := cX3_settle) (maxL := 4) (ret := (some .int)) (by decide) rfl ?_
  intro p e s m args below meth c s₁ B hml hno hv
  obtain ⟨rfl, hP, hN, hX⟩ := hv
  have hx := B.exec
  have hb := B.bytes
  have hr := B.returns
  have hG : ∀ w ∈ lw_G, w.before _ s = true := fun w h => atoms_spec (ws := _ :: lw_G) B.pre w (List.mem_cons_of_mem _ h)
  have hown : s.vm.findClass RX3 = some m.cls := findClass_of_methodNamed B.named
  have hlocks := B.notSynchronized
  have hK := hN.1
  have hS : va_S (fun q => lo ≤ q) s.heap s.heap [] := va_S.rf
  have hl := lv_entry ([.ref (adr 0), .int x, .int kk]) (n := 4) (Nat.le_of_ble_eq_true rfl)
  rw [lg_entry_eq]
  generalize (lg_sl ([.ref (adr 0), .int x, .int kk]) ++ List.replicate (4 - (lg_sl ([.ref (adr 0), .int x, .int kk])).length) Slot.unset).toArray = ls at hl ⊢
  have hl : lv_has ls 4 [(0, .ref (adr 0)), (1, .int x), (2, .int kk)] := hl
  obtain ⟨hE0, hE1, hE2, hK0, hK1, hK2, hK3, hK4, ⟨hdv, hE8⟩, hDk, hTl, hct, hnm, htd, hmk, hlf⟩ := id hR
  have h30 : ∀ j, 30 ≤ j → E j = E j := fun _ _ => rfl
  refine lv_iload_n hx hb dX3_settle_0 rfl (lv_at hl 1 rfl) ?_
  refine wx_S (rest := []) hx hb hml hown hG hN hX hP (cX3_needName_x hls _) (cwS 1 hG (gS g_384 g_385 g_1 g_386) rfl rfl rfl (by decide +kernel) ⟨(Nat.le_of_ble_eq_true rfl), (Nat.le_of_ble_eq_true rfl)⟩) rfl hl.1 rfl (Nat.le_of_ble_eq_true rfl) dX3_settle_1 ⟨(Nat.le_of_ble_eq_true rfl), (Nat.le_of_ble_eq_true rfl)⟩ hno hlocks (Nat.le_of_ble_eq_true rfl) (Nat.le_of_ble_eq_true rfl) (fun X h => ⟨by unfold k_set; rw [h.2]; rfl, h.1⟩) (fun hC => ?_)
  have hNm := hC
  obtain ⟨a, ha, rfl⟩ := inN_of (Bool.and_eq_true_iff.mp hC).1 (by decide)
  refine lv_iload_n hx hb dX3_settle_4 rfl (lv_at hl 2 rfl) ?_
  refine lv_if_ge (tgt := 18) hx hb dX3_settle_5 (by decide) (fun c5 => ?_) (fun c5 => ?_)
  · obtain ⟨q, hq, rfl⟩ := nI_of (x := kk) (Int32.not_lt.mpr c5)
    refine lv_aload_n hx hb dX3_settle_18 rfl (lv_at hl 0 rfl) ?_
    refine va_get (D := D) (ci := 3) (v := .ref (adr 3)) (C := RX3) (T := TX3) (N := 4) hx hb hG inG_X3 hown hK hP 0 (wl_at (by omega) hE0) rfl 2 (by decide) (hG _ g_101) (fun _ h9 => h9) rfl dX3_settle_19 ?_
    refine lv_iload_n hx hb dX3_settle_22 rfl (lv_at hl 1 rfl) ?_
    refine lv_iload_n hx hb dX3_settle_23 rfl (lv_at hl 2 rfl) ?_
    refine wn_rV (rest := []) hx hb hml hown hG hN hP (cX2_findKth_r (by omega) hct hK0 hK1 hK2 hK3 hK4 hnm htd (a := a) (q := q) (by omega) (by omega)) (cwV 2 hG (gV g_388 g_389 g_390 g_2 g_391) rfl rfl rfl (by decide +kernel) ⟨Nat.le_of_ble_eq_true rfl, Nat.le_of_ble_eq_true rfl⟩) (by omega) hK0 rfl rfl hl.1 rfl (Nat.le_of_ble_eq_true rfl) dX3_settle_24 ⟨Nat.le_of_ble_eq_true rfl, Nat.le_of_ble_eq_true rfl⟩ ?_
    refine lv_istore_n (lv' := [(3, .int (oI (kth S a q))), (0, .ref (adr 0)), (1, .int (nI a)), (2, .int (nI q))]) hx hb dX3_settle_27 rfl hl (by decide) rfl (fun ls hl => ?_)
    refine lv_iload_n hx hb dX3_settle_28 rfl (lv_at hl 0 rfl) ?_
    refine lv_iconst (v := (-1)) hx hb dX3_settle_29 (by decide) ?_
    refine lv_icmp_ne (tgt := 43) hx hb dX3_settle_30 (by decide) (fun c30 => ?_) (fun c30 => ?_)
    · obtain ⟨z, hz⟩ := oI_ne c30
      have hz : kth S a q = some z := hz
      have bz := (fiB_spec hz).1
      rw [hz] at hl
      refine lv_aload_n hx hb dX3_settle_43 rfl (lv_at hl 1 rfl) ?_
      refine va_get (D := D) (ci := 3) (v := .ref (adr 3)) (C := RX3) (T := TX3) (N := 4) hx hb hG inG_X3 hown hK hP 0 (wl_at (by omega) hE0) rfl 2 (by decide) (hG _ g_101) (fun _ h9 => h9) rfl dX3_settle_44 ?_
      refine lv_iload_n hx hb dX3_settle_47 rfl (lv_at hl 0 rfl) ?_
      refine wn_wV (rest := []) hx hb hml hown hG hN hP hS (cX2_settleOn_w hAd (by omega) hct hK0 hK1 hK2 hK3 hK4 hnm htd (i := z) (by omega)) (cwV 1 hG (gV g_393 g_394 g_395 g_2 g_396) rfl rfl rfl (by decide +kernel) ⟨Nat.le_of_ble_eq_true rfl, Nat.le_of_ble_eq_true rfl⟩) (by omega) hK0 rfl rfl hl.1 rfl (Nat.le_of_ble_eq_true rfl) dX3_settle_48 ⟨Nat.le_of_ble_eq_true rfl, Nat.le_of_ble_eq_true rfl⟩ (fun F1 H locs hFF hP hS => ?_)
      obtain ⟨f4, fF⟩ := hFF
      have fG := fF
      have fF : ∀ j, j ≠ 3 → j ≠ 3 + 1 → j ≠ 3 + 2 → j ≠ 3 + 3 → j ≠ 3 + 4 → F1 j = E j := fun j _ _ _ _ z4 => fG j z4
      have hR : Rep cA adr (uK S (c_ct S) (c_nm S) (c_td S) (c_vl S) (fun j => if j < c_ct S ∧ c_nm S j = c_nm S z then decide (j = z) else c_sd S j)) F1 := rep_uK hR ((fG 3 (by omega)).trans hK0) ((fG (3 + 1) (by omega)).trans hK1) ((fG (3 + 2) (by omega)).trans hK2) ((fG (3 + 3) (by omega)).trans hK3) f4 fF hct hnm htd
      have h30 : ∀ j, 30 ≤ j → F1 j = E j := fun j hj => (fF j (by omega) (by omega) (by omega) (by omega) (by omega)).trans (h30 j hj)
      obtain ⟨S1, hS1⟩ : ∃ z9, z9 = uK S (c_ct S) (c_nm S) (c_td S) (c_vl S) (fun j => if j < c_ct S ∧ c_nm S j = c_nm S z then decide (j = z) else c_sd S j) := ⟨_, rfl⟩
      rw [← hS1] at hR
      obtain ⟨hE0, hE1, hE2, hK0, hK1, hK2, hK3, hK4, ⟨hdv, hE8⟩, hDk, hTl, hct, hnm, htd, hmk, hlf⟩ := id hR
      refine lv_aload_n hx hb dX3_settle_51 rfl (lv_at hl 1 rfl) ?_
      refine va_get (D := D) (ci := 3) (v := .ref (adr 3)) (C := RX3) (T := TX3) (N := 4) hx hb hG inG_X3 hown hK hP 0 (wl_at (by omega) hE0) rfl 2 (by decide) (hG _ g_101) (fun _ h9 => h9) rfl dX3_settle_52 ?_
      refine va_get (D := D) (ci := 2) (v := .ref (adr (3 + 3))) (C := RX2) (T := TX2) (N := 5) hx hb hG inG_X2 hown hK hP 3 (wl_at (by omega) hK0) rfl 2 (by decide) (hG _ g_37) (fun _ h9 => h9) rfl dX3_settle_55 ?_
      refine lv_iload_n hx hb dX3_settle_58 rfl (lv_at hl 0 rfl) ?_
      refine wn_iald (j := z) hx hb hK hP (by omega) hK3 (by omega) (by decide) dX3_settle_59 ?_
      refine W.widen (k := 3) (n := 18) (Nat.le_of_ble_eq_true rfl) (Nat.le_of_ble_eq_true rfl) ?_
      exact vx_ret (W.iret (v := (c_vl S1) z) hx hb hr (fun u9 ht _ => ⟨congrArg (fun z => Outcome.returned (some (Value.int z))) (by unfold r_set; rw [nI_clamp (by omega), nI_clamp (by omega), hz, hS1]; rfl), by unfold k_set; rw [hNm, decide_eq_true c5, nI_clamp (by omega), nI_clamp (by omega), hz]; rfl, F1, (by unfold s_set; rw [nI_clamp (by omega), nI_clamp (by omega), hz]; rw [hS1] at hR; exact hR), h30, by rw [ht]; exact hP, hS.F ht⟩) hS.2.2 dX3_settle_60)
    · exact th_IOB hx hb hls hown hG hN hX (hl.1.trans hml.symm) 12 rfl dX3_settle_33 dX3_settle_36 dX3_settle_37 dX3_settle_39 dX3_settle_42 hno (Nat.le_of_ble_eq_true rfl) (Nat.le_of_ble_eq_true rfl) (Nat.le_of_ble_eq_true rfl) (Nat.le_of_ble_eq_true rfl) hlocks ⟨by unfold k_set; rw [hNm, decide_eq_true c5, nI_clamp (by omega), nI_clamp (by omega)]; simp only [Bool.and_self, if_true]; rw [if_pos ((oI_n1 (o := kth S a q) (fun z hz => by have := (fiB_spec hz).1; omega)).mp c30)], rfl⟩ (Nat.le_of_ble_eq_true rfl) (Nat.le_of_ble_eq_true rfl)
  · exact th_IOB hx hb hls hown hG hN hX (hl.1.trans hml.symm) 11 rfl dX3_settle_8 dX3_settle_11 dX3_settle_12 dX3_settle_14 dX3_settle_17 hno (Nat.le_of_ble_eq_true rfl) (Nat.le_of_ble_eq_true rfl) (Nat.le_of_ble_eq_true rfl) (Nat.le_of_ble_eq_true rfl) hlocks ⟨by unfold k_set; rw [show decide (0 ≤ kk) = false from by simpa using c5, Bool.and_false]; rfl, rfl⟩ (Nat.le_of_ble_eq_true rfl) (Nat.le_of_ble_eq_true rfl)
end
