theorem inG_X0 : ∀ w ∈ u_ws RX0 TX0 5, w ∈ lw_G := by decide +kernel
theorem inG_X1 : ∀ w ∈ u_ws RX1 TX1 4, w ∈ lw_G := by decide +kernel
theorem inG_X2 : ∀ w ∈ u_ws RX2 TX2 5, w ∈ lw_G := by decide +kernel
theorem inG_X3 : ∀ w ∈ u_ws RX3 TX3 4, w ∈ lw_G := by decide +kernel
theorem inG_X4 : ∀ w ∈ u_ws RX4 TX4 16, w ∈ lw_G := by decide +kernel
theorem gp_X3_hasRival : Cond.selects RX3 yX3_hasRival yX3_hasRival ∈ lw_G := List.mem_filter.mpr ⟨List.mem_append_left _ (List.mem_of_getElem? (i := 1) (by decide +kernel)), by decide +kernel⟩
theorem gp_X3_beginsConflict : Cond.selects RX3 yX3_beginsConflict yX3_beginsConflict ∈ lw_G := List.mem_filter.mpr ⟨List.mem_append_left _ (List.mem_of_getElem? (i := 2) (by decide +kernel)), by decide +kernel⟩
theorem gp_X3_findLast : Cond.selects RX3 yX3_findLast yX3_findLast ∈ lw_G := List.mem_filter.mpr ⟨List.mem_append_left _ (List.mem_of_getElem? (i := 3) (by decide +kernel)), by decide +kernel⟩
theorem gp_X3_isLater : Cond.selects RX3 yX3_isLater yX3_isLater ∈ lw_G := List.mem_filter.mpr ⟨List.mem_append_left _ (List.mem_of_getElem? (i := 4) (by decide +kernel)), by decide +kernel⟩
theorem gp_X3_realTimeOf : Cond.selects RX3 yX3_realTimeOf yX3_realTimeOf ∈ lw_G := List.mem_filter.mpr ⟨List.mem_append_left _ (List.mem_of_getElem? (i := 5) (by decide +kernel)), by decide +kernel⟩
theorem gp_X3_countsBy : Cond.selects RX3 yX3_countsBy yX3_countsBy ∈ lw_G := List.mem_filter.mpr ⟨List.mem_append_left _ (List.mem_of_getElem? (i := 6) (by decide +kernel)), by decide +kernel⟩
theorem gp_X3_hear : Cond.selects RX3 yX3_hear yX3_hear ∈ lw_G := List.mem_filter.mpr ⟨List.mem_append_left _ (List.mem_of_getElem? (i := 7) (by decide +kernel)), by decide +kernel⟩
theorem gp_X4_throwing : Cond.selects RX4 yX4_throwing yX4_throwing ∈ lw_G := List.mem_filter.mpr ⟨List.mem_append_left _ (List.mem_of_getElem? (i := 8) (by decide +kernel)), by decide +kernel⟩
theorem gp_X4_realOf : Cond.selects RX4 yX4_realOf yX4_realOf ∈ lw_G := List.mem_filter.mpr ⟨List.mem_append_left _ (List.mem_of_getElem? (i := 9) (by decide +kernel)), by decide +kernel⟩
theorem gp_X4_find : Cond.selects RX4 yX4_find yX4_find ∈ lw_G := List.mem_filter.mpr ⟨List.mem_append_left _ (List.mem_of_getElem? (i := 10) (by decide +kernel)), by decide +kernel⟩
theorem gp_X4_has : Cond.selects RX4 yX4_has yX4_has ∈ lw_G := List.mem_filter.mpr ⟨List.mem_append_left _ (List.mem_of_getElem? (i := 11) (by decide +kernel)), by decide +kernel⟩
theorem gp_X4_areRivals : Cond.selects RX4 yX4_areRivals yX4_areRivals ∈ lw_G := List.mem_filter.mpr ⟨List.mem_append_left _ (List.mem_of_getElem? (i := 12) (by decide +kernel)), by decide +kernel⟩
theorem gp_X4_comes : Cond.selects RX4 yX4_comes yX4_comes ∈ lw_G := List.mem_filter.mpr ⟨List.mem_append_left _ (List.mem_of_getElem? (i := 13) (by decide +kernel)), by decide +kernel⟩
theorem gp_X4_sees : Cond.selects RX4 yX4_sees yX4_sees ∈ lw_G := List.mem_filter.mpr ⟨List.mem_append_left _ (List.mem_of_getElem? (i := 14) (by decide +kernel)), by decide +kernel⟩
theorem gp_X4_lastOf : Cond.selects RX4 yX4_lastOf yX4_lastOf ∈ lw_G := List.mem_filter.mpr ⟨List.mem_append_left _ (List.mem_of_getElem? (i := 15) (by decide +kernel)), by decide +kernel⟩
theorem gp_X4_counts : Cond.selects RX4 yX4_counts yX4_counts ∈ lw_G := List.mem_filter.mpr ⟨List.mem_append_left _ (List.mem_of_getElem? (i := 16) (by decide +kernel)), by decide +kernel⟩
theorem gp_X4_isLater : Cond.selects RX4 yX4_isLater yX4_isLater ∈ lw_G := List.mem_filter.mpr ⟨List.mem_append_left _ (List.mem_of_getElem? (i := 17) (by decide +kernel)), by decide +kernel⟩
theorem gp_X4_hasNumber : Cond.selects RX4 yX4_hasNumber yX4_hasNumber ∈ lw_G := List.mem_filter.mpr ⟨List.mem_append_left _ (List.mem_of_getElem? (i := 18) (by decide +kernel)), by decide +kernel⟩
theorem kN_keyIn : Cond.methodLinkNest RX2 33 yX3_keyIn "ToldRows" ∈ kN := by decide +kernel
theorem kN_lowBits : Cond.methodLinkNest RX2 29 yX3_lowBits "ToldRows" ∈ kN := by decide +kernel
section WDM
variable {p : Program} {l : Launch} {e : Env} {R : Room} {s : State} {m : MethodId} {args : Array Value} {below : List Frame} {meth : Method} {c : Code} {H : Heap} {locs : List Loc} {cells slots : Nat} {Q : State → Prop}
variable {cc : ByteArray} {pc : Nat} {ls : Array Slot} {rest : List Value}
theorem wn_rSN {own host : String} {y : MethodName} {bytes : ByteArray} {maxL nL na index : Nat} {ret : Option FieldType} {wy : Cond} {rm : Room} {As : List Value} {r : Int32} {st0 : List Value}
    (hx : p.tables.exec = Jvm.exec) (hb : c.code = cc) (hml : c.maxLocals = nL) (hown : s.vm.findClass own = some m.cls) (hG : ∀ w ∈ lw_G, w.before args s = true)
    (hM : Met l y (wy :: lw_G) rm (va_Pc As (fun _ => True)) (QcRead r) 0 0 (fun _ => False)) (cw : va_CN R s args own index y host bytes maxL ret (wy :: lw_G) rm 0 0 na ∧ (Cond.static y).before args s = true ∧ True)
    (hn : As.length = na) (hsize : ls.size = nL) (hstack : st0 = As.reverse ++ rest) (hW : (rest.map fun v => v.category).sum ≤ 8) (hdg : decode cc pc = .ok (.invokestatic index, 3)) (hf : cells ≤ R.cells ∧ slots ≤ R.slots)
    (kk : W p l e R s m args below meth c H locs cells slots Q (F0 m (pc + 3) ls (.int r :: rest))) : W p l e R s m args below meth c H locs cells slots Q (F0 m pc ls st0) := by
  subst hstack
  have hr := va_runSN (p := p) (l := l) (e := e) (R := R) (s := s) (m := m) (args := args) (below := below) (meth := meth) (c := c) (H := H) (locs := locs) (cells := cells) (slots := slots) (g := F0 m pc ls (As.reverse ++ rest)) (As := As) (rest := rest) ⟨hx, hb, hml, hown, hG⟩ hM cw ⟨fun a U g mk h => ⟨h.1, trivial⟩, fun U _ _ => ⟨rfl, trivial⟩⟩ rfl hn hsize rfl (lv_room hW) hdg hf
  refine W.callR (a := As.toArray) (r := r) (rest := rest) (fun T hT X => ?_) kk
  obtain ⟨v, st₀, t, T', L, h0, X', hL, e1, e2, hq, st⟩ := hr T hT X
  exact ⟨v, st₀, t, T', L, h0, X', hL, e1, hq, st⟩
end WDM
theorem nI_or {a b k : Nat} (hb : b < 2 ^ k) : nI (a * 2 ^ k) ||| nI b = nI (a * 2 ^ k + b) := by
  have h : a * 2 ^ k ||| b = a * 2 ^ k + b := by
    have := Nat.shiftLeft_add_eq_or_of_lt hb a
    rw [Nat.shiftLeft_eq] at this
    exact this.symm
  rw [← h]
  apply Int32.toBitVec_inj.mp
  show BitVec.ofNat 32 (a * 2 ^ k) ||| BitVec.ofNat 32 b = BitVec.ofNat 32 (a * 2 ^ k ||| b)
  rw [BitVec.ofNat_or]

