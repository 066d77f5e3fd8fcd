/-! CONTEXT: what a contract knows of the tables beside lw_G: words that are no good words, string constants, the two statics of Throwable -/
def kN : List Cond := [(Jvm.Cond.declares ({ cls := "java/lang/RuntimeException", name := "<init>", desc := "(Ljava/lang/String;)V" } : Jvm.MethodName)), (Jvm.Cond.declares ({ cls := "java/lang/Exception", name := "<init>", desc := "(Ljava/lang/String;)V" } : Jvm.MethodName)), (Jvm.Cond.declares ({ cls := "java/lang/Throwable", name := "<init>", desc := "(Ljava/lang/String;)V" } : Jvm.MethodName)), (Jvm.Cond.castable "java/lang/IndexOutOfBoundsException" "java/lang/IndexOutOfBoundsException"), (Jvm.Cond.castable "java/lang/IllegalStateException" "java/lang/IllegalStateException"), (Jvm.Cond.castable "java/lang/IllegalArgumentException" "java/lang/IllegalArgumentException"), (Jvm.Cond.castable "java/lang/UnsupportedOperationException" "java/lang/UnsupportedOperationException"), (Jvm.Cond.methodLinkNest "ToldRows$Tellings" (33 : Nat) ({ cls := "ToldRows", name := "keyIn", desc := "(I)I" } : Jvm.MethodName) "ToldRows"), (Jvm.Cond.methodLinkNest "ToldRows$Tellings" (29 : Nat) ({ cls := "ToldRows", name := "lowBits", desc := "(II)I" } : Jvm.MethodName) "ToldRows")]
def KN (D : va_G) (tys : List (ClassId × FieldType)) (U : State) : Prop := va_K D kcl tys U ∧ ∀ w ∈ kN, va_Nw w U
theorem KN.warm {D : va_G} {tys : List (ClassId × FieldType)} {s U : State} (hW : s.WarmedH U.vm) (h : KN D tys s) : KN D tys U := by
  refine ⟨va_K.moved hW.alike h.1, fun w hw => ?_⟩
  have hz := h.2 w hw
  simp only [kN, List.mem_cons, List.not_mem_nil, or_false] at hw
  rcases hw with rfl | rfl | rfl | rfl | rfl | rfl | rfl | rfl | rfl
  · exact va_Nw.warmD hW hz
  · exact va_Nw.warmD hW hz
  · exact va_Nw.warmD hW hz
  · exact va_Nw.warmC hW hz
  · exact va_Nw.warmC hW hz
  · exact va_Nw.warmC hW hz
  · exact va_Nw.warmC hW hz
  · exact va_Nw.warmM hW hz
  · exact va_Nw.warmM hW hz
def kSt : List (Nat × String) := [(190, "no such teller"), (44, "the teller has all its marks"), (197, "no such time"), (58, "the own time does not rise, or the real one falls"), (192, "no such desk"), (199, "other bits are told"), (204, "no such number"), (94, "no room for one more telling"), (111, "the teller is in its last life"), (115, "the desks are one"), (125, "the batch is so already"), (139, "k is below 0"), (145, "there are not so many tellings"), (194, "no such key"), (157, "no such what"), (163, "the key has no last telling"), (176, "the desk has no such moment"), (178, "the key had no last telling then")]
def KS (sa : Nat → Nat) (U : State) : Prop := ∀ (k : Nat) (q : Nat × String), kSt[k]? = some q → vk_R RX3 q.1 q.2 (sa k) U
def KX (sa : Nat → Nat) (lo : Nat) (U : State) : Prop := KS sa U ∧ vx_Zq Bundle.tN "UNASSIGNED_STACK" Bundle.steD (fun q => lo ≤ q) U U.heap ∧ vx_Zq Bundle.tN "SUPPRESSED_SENTINEL" Bundle.listD (fun q => lo ≤ q) U U.heap
theorem KX.go {sa : Nat → Nat} {lo : Nat} {s U : State} {H : Heap} {locs : List Loc} (hW : s.WarmedH U.vm) (hS : va_S (fun q => lo ≤ q) s.heap H locs) (hU : U.heap = H) (h : KX sa lo s) : KX sa lo U := by
  subst hU
  exact ⟨fun k q hk => vk_R.warm hW (h.1 k q hk), vx_Zq.moved hW.alike (vx_Zq.kept h.2.1 hS.2.1), vx_Zq.moved hW.alike (vx_Zq.kept h.2.2 hS.2.1)⟩
def wdU (D : va_G) (tys : List (ClassId × FieldType)) (adr : Nat → Nat) (n : Nat) (E : Nat → va_E) (U : State) : Prop := va_P D kcl (wl adr n E) U.heap ∧ KN D tys U
def wdX (D : va_G) (tys : List (ClassId × FieldType)) (sa : Nat → Nat) (lo : Nat) (adr : Nat → Nat) (n : Nat) (E : Nat → va_E) (U : State) : Prop := va_P D kcl (wl adr n E) U.heap ∧ KN D tys U ∧ KX sa lo U
theorem wdU_blind {D : va_G} {tys : List (ClassId × FieldType)} {adr : Nat → Nat} {n : Nat} {E : Nat → va_E} {av : List Value} : FrameBlind (va_Pc av (wdU D tys adr n E)) := by
  intro a U g mk h
  obtain ⟨h1, h2, h3⟩ := h
  exact ⟨h1, h2, KN.warm (s := U) (U := U.calling g mk a) (State.WarmedH.refl U) h3⟩
theorem wdX_blind {D : va_G} {tys : List (ClassId × FieldType)} {sa : Nat → Nat} {lo : Nat} {adr : Nat → Nat} {n : Nat} {E : Nat → va_E} {av : List Value} : FrameBlind (va_Pc av (wdX D tys sa lo adr n E)) := by
  intro a U g mk h
  obtain ⟨h1, h2, h3, h4⟩ := h
  exact ⟨h1, h2, KN.warm (s := U) (U := U.calling g mk a) (State.WarmedH.refl U) h3, KX.go (s := U) (U := U.calling g mk a) (H := U.heap) (locs := []) (State.WarmedH.refl U) va_S.rf rfl h4⟩
theorem wdU_pre {D : va_G} {tys : List (ClassId × FieldType)} {adr : Nat → Nat} {n : Nat} {E : Nat → va_E} {av : List Value} {s : State} {H : Heap} (hN : KN D tys s) (hP : va_P D kcl (wl adr n E) H) :
    ∀ U : State, U.heap = H → s.WarmedH U.vm → va_Pc av (wdU D tys adr n E) av.toArray U :=
  fun U hU hW => ⟨rfl, by rw [hU]; exact hP, KN.warm hW hN⟩
theorem wdX_pre {D : va_G} {tys : List (ClassId × FieldType)} {sa : Nat → Nat} {lo : Nat} {adr : Nat → Nat} {n : Nat} {E : Nat → va_E} {av : List Value} {s : State} {H : Heap} {locs : List Loc} (hN : KN D tys s) (hX : KX sa lo s) (hS : va_S (fun q => lo ≤ q) s.heap H locs) (hP : va_P D kcl (wl adr n E) H) :
    ∀ U : State, U.heap = H → s.WarmedH U.vm → va_Pc av (wdX D tys sa lo adr n E) av.toArray U :=
  fun U hU hW => ⟨rfl, by rw [hU]; exact hP, KN.warm hW hN, KX.go hW hS hU hX⟩
theorem wd_recv {D : va_G} {tys : List (ClassId × FieldType)} {adr : Nat → Nat} {n : Nat} {E : Nat → va_E} {s : State} {H : Heap} (hN : KN D tys s) (hP : va_P D kcl (wl adr n E) H) {k ci : Nat} {fs : List Value} {q : vw_C} (hk : k < n) (hE : E k = .inr (ci, fs)) (hc : kcl[ci]? = some q) :
    ∃ cell : Cell, H[adr k]? = some cell ∧ cell.vm.isStatics = false ∧ s.vm.findClass q.1 = some cell.cls := va_recv hN.1 hP hc (wl_at hk hE)
/-- words of a call, out of lw_G -/
theorem gGood {w : Cond} (h : w ∈ lw_G) : w ∈ lw_G ∧ ((w.onTables && w.keeps) = true ∨ ∃ ty, w = .arrayClass ty) := ⟨h, good_of_word (List.mem_filter.mp h).2⟩
theorem gV {own C : String} {idx : Nat} {y : MethodName} {wy : Cond} (h1 : Cond.methodLink own idx y ∈ lw_G) (h2 : Cond.instanceMethod y ∈ lw_G) (h3 : Cond.selects C y y ∈ lw_G) (h4 : Cond.initialized C ∈ lw_G) (h5 : wy ∈ lw_G) : GoodIn lw_G (wsV own idx C y (wy :: lw_G)) := by
  intro w hw
  simp only [wsV, List.cons_append, List.nil_append, List.mem_cons] at hw
  rcases hw with rfl | rfl | rfl | rfl | rfl | h
  · exact gGood h1
  · exact gGood h2
  · exact gGood h3
  · exact gGood h4
  · exact gGood h5
  · exact gGood h
theorem gS {own : String} {idx : Nat} {y : MethodName} {wy : Cond} (h1 : Cond.methodLink own idx y ∈ lw_G) (h2 : Cond.static y ∈ lw_G) (h4 : Cond.initialized own ∈ lw_G) (h5 : wy ∈ lw_G) : GoodIn lw_G (wsS own idx y (wy :: lw_G)) := by
  intro w hw
  simp only [wsS, List.cons_append, List.nil_append, List.mem_cons] at hw
  rcases hw with rfl | rfl | rfl | rfl | h
  · exact gGood h1
  · exact gGood h2
  · exact gGood h4
  · exact gGood h5
  · exact gGood h
theorem gI {wy : Cond} (h5 : wy ∈ lw_G) : GoodIn lw_G (wy :: lw_G) := by
  intro w hw
  rcases List.mem_cons.mp hw with rfl | h
  · exact gGood h5
  · exact gGood h
abbrev kty (cA : Nat → ClassId) : List (ClassId × FieldType) := [(cA 0, .int), (cA 1, .boolean), (cA 2, .object "ToldRows$Teller"), (cA 3, .object "ToldRows$Desk"), (cA 4, .long)]
def bI (b : Bool) : Int32 := if b then 1 else 0
theorem bI_t : bI true = 1 := rfl
theorem bI_f : bI false = 0 := rfl
theorem bI_0 {b : Bool} : bI b = 0 ↔ b = false := by cases b <;> simp [bI]
theorem bI_1 {b : Bool} : ¬ bI b = 0 ↔ b = true := by cases b <;> simp [bI]
theorem bI_nar (b : Bool) : narrow .boolean (.int (bI b)) = .int (bI b) := by cases b <;> rfl
theorem bI_vnar (b : Bool) : vp_nar .boolean (bI b) = bI b := by cases b <;> rfl
section WDN
variable {p : Program} {l : Launch} {e : Env} {R : Room} {s : State} {m : MethodId} {args : Array Value} {below : List Frame} {meth : Method} {c : Code} {H : Heap} {locs : List Loc} {cells slots : Nat} {Q : State → Prop}
variable {cc : ByteArray} {pc : Nat} {ls : Array Slot} {rest : List Value} {D : va_G} {cA : Nat → ClassId} {H0 : Heap} {adr : Nat → Nat} {lo n : Nat} {E : Nat → va_E}
theorem wn_iald (hexec : p.tables.exec = Jvm.exec) (hb : c.code = cc) (hK : va_K D kcl (kty cA) s) (hP : va_P D kcl (wl adr n E) H) {k0 N j : Nat} (hk0 : k0 < n) {f : Nat → Int32} (hE : E k0 = .inl (cA 0, N, .inl f)) (hj : j < N) (hN : N < 2 ^ 31) (hdg : decode cc pc = .ok (.iaload, 1))
    (kk : W p l e R s m args below meth c H locs cells slots Q (F0 m (pc + 1) ls (.int (f j) :: rest))) : W p l e R s m args below meth c H locs cells slots Q (F0 m pc ls (.int (nI j) :: .ref (adr k0) :: rest)) :=
  va_iald hexec hb hK hP k0 0 (wl_at hk0 hE) rfl (vp_in_nI hj hN) hdg (by rw [nI_clamp (by omega)]; exact kk)
theorem wn_zald (hexec : p.tables.exec = Jvm.exec) (hb : c.code = cc) (hK : va_K D kcl (kty cA) s) (hP : va_P D kcl (wl adr n E) H) {k0 N j : Nat} (hk0 : k0 < n) {f : Nat → Int32} (hE : E k0 = .inl (cA 1, N, .inl f)) (hj : j < N) (hN : N < 2 ^ 31) (hdg : decode cc pc = .ok (.baload, 1))
    (kk : W p l e R s m args below meth c H locs cells slots Q (F0 m (pc + 1) ls (.int (f j) :: rest))) : W p l e R s m args below meth c H locs cells slots Q (F0 m pc ls (.int (nI j) :: .ref (adr k0) :: rest)) :=
  va_zald hexec hb hK hP k0 1 (wl_at hk0 hE) rfl (vp_in_nI hj hN) hdg (by rw [nI_clamp (by omega)]; exact kk)
theorem wn_iast (hexec : p.tables.exec = Jvm.exec) (hb : c.code = cc) (hK : va_K D kcl (kty cA) s) (hAd : wd_ad lo n adr) (hP : va_P D kcl (wl adr n E) H) (hS : va_S (fun q => lo ≤ q) H0 H locs) {k0 N j : Nat} (hk0 : k0 < n) {f : Nat → Int32} (hE : E k0 = .inl (cA 0, N, .inl f)) (hj : j < N) (hN : N < 2 ^ 31) {x : Int32} (hdg : decode cc pc = .ok (.iastore, 1))
    (kk : ∀ (H1 : Heap) (locs1 : List Loc), va_P D kcl (wl adr n (va_up E k0 (.inl (cA 0, N, .inl (upd f j x))))) H1 → va_S (fun q => lo ≤ q) H0 H1 locs1 → W p l e R s m args below meth c H1 locs1 cells slots Q (F0 m (pc + 1) ls rest)) : W p l e R s m args below meth c H locs cells slots Q (F0 m pc ls (.int x :: .int (nI j) :: .ref (adr k0) :: rest)) :=
  wd_iast hexec hb hK hAd hP hS 0 hk0 hE rfl (vp_in_nI hj hN) hdg (fun H1 l1 h1 h2 => kk H1 l1 (by rw [nI_clamp (by omega)] at h1; exact h1) h2)
theorem wn_zast (hexec : p.tables.exec = Jvm.exec) (hb : c.code = cc) (hK : va_K D kcl (kty cA) s) (hAd : wd_ad lo n adr) (hP : va_P D kcl (wl adr n E) H) (hS : va_S (fun q => lo ≤ q) H0 H locs) {k0 N j : Nat} (hk0 : k0 < n) {f : Nat → Int32} (hE : E k0 = .inl (cA 1, N, .inl f)) (hj : j < N) (hN : N < 2 ^ 31) {b : Bool} (hdg : decode cc pc = .ok (.bastore, 1))
    (kk : ∀ (H1 : Heap) (locs1 : List Loc), va_P D kcl (wl adr n (va_up E k0 (.inl (cA 1, N, .inl (upd f j (bI b)))))) H1 → va_S (fun q => lo ≤ q) H0 H1 locs1 → W p l e R s m args below meth c H1 locs1 cells slots Q (F0 m (pc + 1) ls rest)) : W p l e R s m args below meth c H locs cells slots Q (F0 m pc ls (.int (bI b) :: .int (nI j) :: .ref (adr k0) :: rest)) :=
  wd_zast hexec hb hK hAd hP hS 1 hk0 hE rfl (vp_in_nI hj hN) hdg (fun H1 l1 h1 h2 => kk H1 l1 (by rw [nI_clamp (by omega), bI_vnar] at h1; exact h1) h2)
/-- calls of methods that only read -/
theorem wn_rV {C own : String} {y : MethodName} {bytes : ByteArray} {maxL nL na index k ci N : Nat} {T : u_T} {ret : Option FieldType} {wy : Cond} {rm : Room} {As : List Value} {r : Int32} {st0 : List Value} {fs : List Value}
    (hx : p.tables.exec = Jvm.exec) (hb : c.code = cc) (hml : c.maxLocals = nL) (hown : s.vm.findClass own = some m.cls) (hG : ∀ w ∈ lw_G, w.before args s = true) (hN : KN D (kty cA) s) (hP : va_P D kcl (wl adr n E) H)
    (hM : Met l y (wy :: lw_G) rm (va_Pc (.ref (adr k) :: As) (wdU D (kty cA) adr n E)) (QcRead r) 0 0 (fun _ => False)) (cw : CallW R s args own C index y bytes maxL ret (wy :: lw_G) rm 0 0 na)
    (hk : k < n) (hE : E k = .inr (ci, fs)) (hc : kcl[ci]? = some (C, T, N)) (hn : As.length = na) (hsize : ls.size = nL) (hstack : st0 = As.reverse ++ .ref (adr k) :: rest) (hW : (rest.map fun v => v.category).sum ≤ 8) (hdg : decode cc pc = .ok (.invokevirtual index, 3)) (hf : cells ≤ R.cells ∧ slots ≤ R.slots)
    (kk : W p l e R s m args below meth c H locs cells slots Q (F0 m (pc + 3) ls (.int r :: rest))) : W p l e R s m args below meth c H locs cells slots Q (F0 m pc ls st0) := by
  subst hstack
  exact W.callR (W.runV (As := As) (rest := rest) (b := adr k) ⟨hx, hb, hml, hown, hG⟩ hM cw ⟨wdU_blind, wd_recv hN hP hk hE hc, wdU_pre hN hP⟩ rfl hn hsize rfl (lv_room hW) hdg hf) kk
theorem wn_rS {own : String} {y : MethodName} {bytes : ByteArray} {maxL nL na index : Nat} {ret : Option FieldType} {wy : Cond} {rm : Room} {As : List Value} {r : Int32} {st0 : List Value}
    (hx : p.tables.exec = Jvm.exec) (hb : c.code = cc) (hml : c.maxLocals = nL) (hown : s.vm.findClass own = some m.cls) (hG : ∀ w ∈ lw_G, w.before args s = true)
    (hM : Met l y (wy :: lw_G) rm (va_Pc As (fun _ => True)) (QcRead r) 0 0 (fun _ => False)) (cw : CallB R s args own index y bytes maxL ret (wy :: lw_G) rm 0 0 na ∧ (Cond.static y).before args s = true)
    (hn : As.length = na) (hsize : ls.size = nL) (hstack : st0 = As.reverse ++ rest) (hW : (rest.map fun v => v.category).sum ≤ 8) (hdg : decode cc pc = .ok (.invokestatic index, 3)) (hf : cells ≤ R.cells ∧ slots ≤ R.slots)
    (kk : W p l e R s m args below meth c H locs cells slots Q (F0 m (pc + 3) ls (.int r :: rest))) : W p l e R s m args below meth c H locs cells slots Q (F0 m pc ls st0) := by
  subst hstack
  exact W.callR (W.runS (As := As) (rest := rest) ⟨hx, hb, hml, hown, hG⟩ hM cw ⟨fun a U g mk h => ⟨h.1, trivial⟩, fun U _ _ => ⟨rfl, trivial⟩⟩ rfl hn hsize rfl (lv_room hW) hdg hf) kk
end WDN
