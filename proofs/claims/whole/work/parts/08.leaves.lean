set_option maxHeartbeats 4000000 in
set_option maxRecDepth 100000 in
/-- Desk.has -/
theorem cX0_has_r {l : Launch} {D : va_G} {cA : Nat → ClassId} {adr : Nat → Nat} {n : Nat} {E : Nat → va_E} {k : Nat} {mo : Nat → Int32} {mt sn wt : Int32} {ib : Bool} (hk : k + 1 < n) (hE0 : E k = .inr (0, [.ref (adr (k + 1)), .int mt, .int sn, .int wt, .int (bI ib)])) (hE1 : E (k + 1) = .inl (cA 0, 120, .inl mo)) {j : Nat} (hj : j < 120) : Met l yX0_has (.code yX0_has cX0_has 2 (some .boolean) :: lw_G) ({ frames := 0, cells := 0, slots := 0, locals := 0 } : Room) (va_Pc [.ref (adr k), .int (nI j)] (wdU D (kty cA) adr n E)) (QcRead (bI (!decide (mo j = 0)))) 0 0 (fun _ => False) := by
  refine Met.ofW (cc := cX0_has) (maxL := 2) (ret := (some .boolean)) (by decide) rfl ?_
  intro p e s m args below meth c s₁ B hml hv
  obtain ⟨rfl, hP, hN⟩ := hv
  have hx := B.exec
  have hb := B.bytes
  have hr := B.returns
  have hG : ∀ w ∈ lw_G, w.before _ s = true := fun w h => atoms_spec (ws := _ :: lw_G) B.pre w (List.mem_cons_of_mem _ h)
  have hown : s.vm.findClass RX0 = some m.cls := findClass_of_methodNamed B.named
  have hlocks := B.notSynchronized
  have hK := hN.1
  have hl := lv_entry ([.ref (adr k), .int (nI j)]) (n := 2) (Nat.le_of_ble_eq_true rfl)
  rw [lg_entry_eq]
  generalize (lg_sl ([.ref (adr k), .int (nI j)]) ++ List.replicate (2 - (lg_sl ([.ref (adr k), .int (nI j)])).length) Slot.unset).toArray = ls at hl ⊢
  have hl : lv_has ls 2 [(0, .ref (adr k)), (1, .int (nI j))] := hl
  refine lv_aload_n hx hb dX0_has_0 rfl (lv_at hl 0 rfl) ?_
  refine va_get (D := D) (ci := 0) (v := .ref (adr (k + 1))) (C := RX0) (T := TX0) (N := 5) hx hb hG inG_X0 hown hK hP k (wl_at (by omega) hE0) rfl 0 (by decide) (hG _ g_79) (fun _ h9 => h9) rfl dX0_has_1 ?_
  refine lv_iload_n hx hb dX0_has_4 rfl (lv_at hl 1 rfl) ?_
  refine wn_iald (j := j) hx hb hK hP (by omega) hE1 (by omega) (by decide) dX0_has_5 ?_
  refine lv_if_eq (tgt := 13) hx hb dX0_has_6 (by decide) (fun c6 => ?_) (fun c6 => ?_)
  · refine lv_iconst (v := 0) hx hb dX0_has_13 (by decide) ?_
    have h9 : (0 : Int32) = bI (!decide (mo j = 0)) := by simp [bI, c6]
    exact W.zret (v := 0) hx hb hr (by first | rfl | exact bI_nar _) (fun t ht _ => ⟨congrArg (fun z => Outcome.returned (some (Value.int z))) h9, ht⟩) (fun _ h => nomatch h) dX0_has_14
  · refine lv_iconst (v := 1) hx hb dX0_has_9 (by decide) ?_
    refine lv_goto (tgt := 14) hx hb dX0_has_10 (by decide) ?_
    have h9 : (1 : Int32) = bI (!decide (mo j = 0)) := by simp [bI, c6]
    exact W.zret (v := 1) hx hb hr (by first | rfl | exact bI_nar _) (fun t ht _ => ⟨congrArg (fun z => Outcome.returned (some (Value.int z))) h9, ht⟩) (fun _ h => nomatch h) dX0_has_14

set_option maxHeartbeats 4000000 in
set_option maxRecDepth 100000 in
/-- Desk.hasSeen -/
theorem cX0_hasSeen_r {l : Launch} {D : va_G} {cA : Nat → ClassId} {adr : Nat → Nat} {n : Nat} {E : Nat → va_E} {k : Nat} {mo : Nat → Int32} {mt sn wt : Int32} {ib : Bool} (hk : k + 1 < n) (hE0 : E k = .inr (0, [.ref (adr (k + 1)), .int mt, .int sn, .int wt, .int (bI ib)])) (hE1 : E (k + 1) = .inl (cA 0, 120, .inl mo)) {j : Nat} (hj : j < 120) : Met l yX0_hasSeen (.code yX0_hasSeen cX0_hasSeen 2 (some .boolean) :: lw_G) ({ frames := 0, cells := 0, slots := 0, locals := 0 } : Room) (va_Pc [.ref (adr k), .int (nI j)] (wdU D (kty cA) adr n E)) (QcRead (bI (decide (0 < mo j)))) 0 0 (fun _ => False) := by
  refine Met.ofW (cc := cX0_hasSeen) (maxL := 2) (ret := (some .boolean)) (by decide) rfl ?_
  intro p e s m args below meth c s₁ B hml hv
  obtain ⟨rfl, hP, hN⟩ := hv
  have hx := B.exec
  have hb := B.bytes
  have hr := B.returns
  have hG : ∀ w ∈ lw_G, w.before _ s = true := fun w h => atoms_spec (ws := _ :: lw_G) B.pre w (List.mem_cons_of_mem _ h)
  have hown : s.vm.findClass RX0 = some m.cls := findClass_of_methodNamed B.named
  have hlocks := B.notSynchronized
  have hK := hN.1
  have hl := lv_entry ([.ref (adr k), .int (nI j)]) (n := 2) (Nat.le_of_ble_eq_true rfl)
  rw [lg_entry_eq]
  generalize (lg_sl ([.ref (adr k), .int (nI j)]) ++ List.replicate (2 - (lg_sl ([.ref (adr k), .int (nI j)])).length) Slot.unset).toArray = ls at hl ⊢
  have hl : lv_has ls 2 [(0, .ref (adr k)), (1, .int (nI j))] := hl
  refine lv_aload_n hx hb dX0_hasSeen_0 rfl (lv_at hl 0 rfl) ?_
  refine va_get (D := D) (ci := 0) (v := .ref (adr (k + 1))) (C := RX0) (T := TX0) (N := 5) hx hb hG inG_X0 hown hK hP k (wl_at (by omega) hE0) rfl 0 (by decide) (hG _ g_79) (fun _ h9 => h9) rfl dX0_hasSeen_1 ?_
  refine lv_iload_n hx hb dX0_hasSeen_4 rfl (lv_at hl 1 rfl) ?_
  refine wn_iald (j := j) hx hb hK hP (by omega) hE1 (by omega) (by decide) dX0_hasSeen_5 ?_
  refine lv_if_le (tgt := 13) hx hb dX0_hasSeen_6 (by decide) (fun c6 => ?_) (fun c6 => ?_)
  · refine lv_iconst (v := 0) hx hb dX0_hasSeen_13 (by decide) ?_
    have h9 : (0 : Int32) = bI (decide (0 < mo j)) := by rw [show decide (0 < mo j) = false from by simpa using c6]; rfl
    exact W.zret (v := 0) hx hb hr (by first | rfl | exact bI_nar _) (fun t ht _ => ⟨congrArg (fun z => Outcome.returned (some (Value.int z))) h9, ht⟩) (fun _ h => nomatch h) dX0_hasSeen_14
  · refine lv_iconst (v := 1) hx hb dX0_hasSeen_9 (by decide) ?_
    refine lv_goto (tgt := 14) hx hb dX0_hasSeen_10 (by decide) ?_
    have h9 : (1 : Int32) = bI (decide (0 < mo j)) := by rw [show decide (0 < mo j) = true from by simpa using c6]; rfl
    exact W.zret (v := 1) hx hb hr (by first | rfl | exact bI_nar _) (fun t ht _ => ⟨congrArg (fun z => Outcome.returned (some (Value.int z))) h9, ht⟩) (fun _ h => nomatch h) dX0_hasSeen_14

set_option maxHeartbeats 4000000 in
set_option maxRecDepth 100000 in
/-- lowBits -/
theorem cX3_lowBits_r {l : Launch} (a b : Int32) : Met l yX3_lowBits (.code yX3_lowBits cX3_lowBits 2 (some .int) :: lw_G) ({ frames := 0, cells := 0, slots := 0, locals := 0 } : Room) (va_Pc [.int a, .int b] (fun _ => True)) (QcRead (a &&& ((1 <<< (b &&& 31)) - 1))) 0 0 (fun _ => False) := by
  refine Met.ofW (cc := cX3_lowBits) (maxL := 2) (ret := (some .int)) (by decide) rfl ?_
  intro p e s m args below meth c s₁ B hml hv
  obtain ⟨rfl, -⟩ := hv
  have hx := B.exec
  have hb := B.bytes
  have hr := B.returns
  have hG : ∀ w ∈ lw_G, w.before _ s = true := fun w h => atoms_spec (ws := _ :: lw_G) B.pre w (List.mem_cons_of_mem _ h)
  have hown : s.vm.findClass RX3 = some m.cls := findClass_of_methodNamed B.named
  have hlocks := B.notSynchronized
  have hl := lv_entry ([.int a, .int b]) (n := 2) (Nat.le_of_ble_eq_true rfl)
  rw [lg_entry_eq]
  generalize (lg_sl ([.int a, .int b]) ++ List.replicate (2 - (lg_sl ([.int a, .int b])).length) Slot.unset).toArray = ls at hl ⊢
  have hl : lv_has ls 2 [(0, .int a), (1, .int b)] := hl
  refine lv_iload_n hx hb dX3_lowBits_0 rfl (lv_at hl 0 rfl) ?_
  refine lv_iconst (v := 1) hx hb dX3_lowBits_1 (by decide) ?_
  refine lv_iload_n hx hb dX3_lowBits_2 rfl (lv_at hl 1 rfl) ?_
  refine lv_ishl hx hb dX3_lowBits_3 ?_
  refine lv_iconst (v := 1) hx hb dX3_lowBits_4 (by decide) ?_
  refine lv_isub hx hb dX3_lowBits_5 ?_
  refine lv_iand hx hb dX3_lowBits_6 ?_
  have h9 : (a &&& ((1 <<< (b &&& 31)) - 1) : Int32) = a &&& ((1 <<< (b &&& 31)) - 1) := rfl
  exact W.iret (v := a &&& ((1 <<< (b &&& 31)) - 1)) hx hb hr (fun t ht _ => ⟨congrArg (fun z => Outcome.returned (some (Value.int z))) h9, ht⟩) (fun _ h => nomatch h) dX3_lowBits_7

set_option maxHeartbeats 4000000 in
set_option maxRecDepth 100000 in
theorem cX3_timeIn_r {l : Launch} (a : Int32) : Met l yX3_timeIn (.code yX3_timeIn cX3_timeIn 1 (some .int) :: lw_G) ({ frames := 1, cells := 0, slots := 0, locals := 21 } : Room) (va_Pc [.int a] (fun _ => True)) (QcRead (a &&& 1048575)) 0 0 (fun _ => False) := by
  refine Met.ofW (cc := cX3_timeIn) (maxL := 1) (ret := (some .int)) (by decide) rfl ?_
  intro p e s m args below meth c s₁ B hml hv
  obtain ⟨rfl, -⟩ := hv
  have hx := B.exec
  have hb := B.bytes
  have hr := B.returns
  have hG : ∀ w ∈ lw_G, w.before _ s = true := fun w h => atoms_spec (ws := _ :: lw_G) B.pre w (List.mem_cons_of_mem _ h)
  have hown : s.vm.findClass RX3 = some m.cls := findClass_of_methodNamed B.named
  have hlocks := B.notSynchronized
  have hl := lv_entry ([.int a]) (n := 1) (Nat.le_of_ble_eq_true rfl)
  rw [lg_entry_eq]
  generalize (lg_sl ([.int a]) ++ List.replicate (1 - (lg_sl ([.int a])).length) Slot.unset).toArray = ls at hl ⊢
  have hl : lv_has ls 1 [(0, .int a)] := hl
  refine lv_iload_n hx hb dX3_timeIn_0 rfl (lv_at hl 0 rfl) ?_
  refine lv_bipush (v := 20) hx hb dX3_timeIn_1 (by decide) ?_
  refine wn_rS (rest := []) hx hb hml hown hG (cX3_lowBits_r _ _) (cwS 2 hG (gS g_277 g_278 g_1 g_279) rfl rfl rfl (by decide +kernel) ⟨Nat.le_of_ble_eq_true rfl, Nat.le_of_ble_eq_true rfl⟩) rfl hl.1 rfl (Nat.le_of_ble_eq_true rfl) dX3_timeIn_3 ⟨Nat.zero_le _, Nat.zero_le _⟩ ?_
  have h9 : (a &&& ((1 <<< ((20 : Int32) &&& 31)) - 1) : Int32) = a &&& 1048575 := by rw [show ((1 : Int32) <<< ((20 : Int32) &&& 31)) - 1 = 1048575 from by decide]
  exact W.iret (v := a &&& ((1 <<< ((20 : Int32) &&& 31)) - 1)) hx hb hr (fun t ht _ => ⟨congrArg (fun z => Outcome.returned (some (Value.int z))) h9, ht⟩) (fun _ h => nomatch h) dX3_timeIn_6

set_option maxHeartbeats 4000000 in
set_option maxRecDepth 100000 in
theorem cX3_keyIn_r {l : Launch} (a : Int32) : Met l yX3_keyIn (.code yX3_keyIn cX3_keyIn 1 (some .int) :: lw_G) ({ frames := 1, cells := 0, slots := 0, locals := 21 } : Room) (va_Pc [.int a] (fun _ => True)) (QcRead ((a >>> ((20 : Int32) &&& 31)) &&& 7)) 0 0 (fun _ => False) := by
  refine Met.ofW (cc := cX3_keyIn) (maxL := 1) (ret := (some .int)) (by decide) rfl ?_
  intro p e s m args below meth c s₁ B hml hv
  obtain ⟨rfl, -⟩ := hv
  have hx := B.exec
  have hb := B.bytes
  have hr := B.returns
  have hG : ∀ w ∈ lw_G, w.before _ s = true := fun w h => atoms_spec (ws := _ :: lw_G) B.pre w (List.mem_cons_of_mem _ h)
  have hown : s.vm.findClass RX3 = some m.cls := findClass_of_methodNamed B.named
  have hlocks := B.notSynchronized
  have hl := lv_entry ([.int a]) (n := 1) (Nat.le_of_ble_eq_true rfl)
  rw [lg_entry_eq]
  generalize (lg_sl ([.int a]) ++ List.replicate (1 - (lg_sl ([.int a])).length) Slot.unset).toArray = ls at hl ⊢
  have hl : lv_has ls 1 [(0, .int a)] := hl
  refine lv_iload_n hx hb dX3_keyIn_0 rfl (lv_at hl 0 rfl) ?_
  refine lv_bipush (v := 20) hx hb dX3_keyIn_1 (by decide) ?_
  refine lv_ishr hx hb dX3_keyIn_3 ?_
  refine lv_iconst (v := 3) hx hb dX3_keyIn_4 (by decide) ?_
  refine wn_rS (rest := []) hx hb hml hown hG (cX3_lowBits_r _ _) (cwS 2 hG (gS g_277 g_278 g_1 g_279) rfl rfl rfl (by decide +kernel) ⟨Nat.le_of_ble_eq_true rfl, Nat.le_of_ble_eq_true rfl⟩) rfl hl.1 rfl (Nat.le_of_ble_eq_true rfl) dX3_keyIn_5 ⟨Nat.zero_le _, Nat.zero_le _⟩ ?_
  have h9 : ((a >>> (20 &&& 31)) &&& ((1 <<< ((3 : Int32) &&& 31)) - 1) : Int32) = (a >>> ((20 : Int32) &&& 31)) &&& 7 := by rw [show ((1 : Int32) <<< ((3 : Int32) &&& 31)) - 1 = 7 from by decide]
  exact W.iret (v := (a >>> (20 &&& 31)) &&& ((1 <<< ((3 : Int32) &&& 31)) - 1)) hx hb hr (fun t ht _ => ⟨congrArg (fun z => Outcome.returned (some (Value.int z))) h9, ht⟩) (fun _ h => nomatch h) dX3_keyIn_8

set_option maxHeartbeats 4000000 in
set_option maxRecDepth 100000 in
theorem cX3_numberIn_r {l : Launch} (a : Int32) : Met l yX3_numberIn (.code yX3_numberIn cX3_numberIn 1 (some .int) :: lw_G) ({ frames := 1, cells := 0, slots := 0, locals := 21 } : Room) (va_Pc [.int a] (fun _ => True)) (QcRead ((a >>> ((23 : Int32) &&& 31)) &&& 127)) 0 0 (fun _ => False) := by
  refine Met.ofW (cc := cX3_numberIn) (maxL := 1) (ret := (some .int)) (by decide) rfl ?_
  intro p e s m args below meth c s₁ B hml hv
  obtain ⟨rfl, -⟩ := hv
  have hx := B.exec
  have hb := B.bytes
  have hr := B.returns
  have hG : ∀ w ∈ lw_G, w.before _ s = true := fun w h => atoms_spec (ws := _ :: lw_G) B.pre w (List.mem_cons_of_mem _ h)
  have hown : s.vm.findClass RX3 = some m.cls := findClass_of_methodNamed B.named
  have hlocks := B.notSynchronized
  have hl := lv_entry ([.int a]) (n := 1) (Nat.le_of_ble_eq_true rfl)
  rw [lg_entry_eq]
  generalize (lg_sl ([.int a]) ++ List.replicate (1 - (lg_sl ([.int a])).length) Slot.unset).toArray = ls at hl ⊢
  have hl : lv_has ls 1 [(0, .int a)] := hl
  refine lv_iload_n hx hb dX3_numberIn_0 rfl (lv_at hl 0 rfl) ?_
  refine lv_bipush (v := 23) hx hb dX3_numberIn_1 (by decide) ?_
  refine lv_ishr hx hb dX3_numberIn_3 ?_
  refine lv_bipush (v := 7) hx hb dX3_numberIn_4 (by decide) ?_
  refine wn_rS (rest := []) hx hb hml hown hG (cX3_lowBits_r _ _) (cwS 2 hG (gS g_277 g_278 g_1 g_279) rfl rfl rfl (by decide +kernel) ⟨Nat.le_of_ble_eq_true rfl, Nat.le_of_ble_eq_true rfl⟩) rfl hl.1 rfl (Nat.le_of_ble_eq_true rfl) dX3_numberIn_6 ⟨Nat.zero_le _, Nat.zero_le _⟩ ?_
  have h9 : ((a >>> (23 &&& 31)) &&& ((1 <<< ((7 : Int32) &&& 31)) - 1) : Int32) = (a >>> ((23 : Int32) &&& 31)) &&& 127 := by rw [show ((1 : Int32) <<< ((7 : Int32) &&& 31)) - 1 = 127 from by decide]
  exact W.iret (v := (a >>> (23 &&& 31)) &&& ((1 <<< ((7 : Int32) &&& 31)) - 1)) hx hb hr (fun t ht _ => ⟨congrArg (fun z => Outcome.returned (some (Value.int z))) h9, ht⟩) (fun _ h => nomatch h) dX3_numberIn_9

set_option maxHeartbeats 4000000 in
set_option maxRecDepth 100000 in
/-- teller, life, number in one -/
theorem cX3_nameOf_r {l : Launch} {t f u : Nat} (ht : t < 2 ^ 20) (hf : f < 4) (hu : u < 128) : Met l yX3_nameOf (.code yX3_nameOf cX3_nameOf 3 (some .int) :: lw_G) ({ frames := 0, cells := 0, slots := 0, locals := 0 } : Room) (va_Pc [.int (nI t), .int (nI f), .int (nI u)] (fun _ => True)) (QcRead (nI (t * 512 + f * 128 + u))) 0 0 (fun _ => False) := by
  refine Met.ofW (cc := cX3_nameOf) (maxL := 3) (ret := (some .int)) (by decide) rfl ?_
  intro p e s m args below meth c s₁ B hml hv
  obtain ⟨rfl, -⟩ := hv
  have hx := B.exec
  have hb := B.bytes
  have hr := B.returns
  have hG : ∀ w ∈ lw_G, w.before _ s = true := fun w h => atoms_spec (ws := _ :: lw_G) B.pre w (List.mem_cons_of_mem _ h)
  have hown : s.vm.findClass RX3 = some m.cls := findClass_of_methodNamed B.named
  have hlocks := B.notSynchronized
  have hl := lv_entry ([.int (nI t), .int (nI f), .int (nI u)]) (n := 3) (Nat.le_of_ble_eq_true rfl)
  rw [lg_entry_eq]
  generalize (lg_sl ([.int (nI t), .int (nI f), .int (nI u)]) ++ List.replicate (3 - (lg_sl ([.int (nI t), .int (nI f), .int (nI u)])).length) Slot.unset).toArray = ls at hl ⊢
  have hl : lv_has ls 3 [(0, .int (nI t)), (1, .int (nI f)), (2, .int (nI u))] := hl
  refine lv_iload_n hx hb dX3_nameOf_0 rfl (lv_at hl 0 rfl) ?_
  refine lv_iconst (v := 2) hx hb dX3_nameOf_1 (by decide) ?_
  refine lv_ishl hx hb dX3_nameOf_2 ?_
  refine lv_iload_n hx hb dX3_nameOf_3 rfl (lv_at hl 1 rfl) ?_
  refine lv_ior hx hb dX3_nameOf_4 ?_
  refine lv_bipush (v := 7) hx hb dX3_nameOf_5 (by decide) ?_
  refine lv_ishl hx hb dX3_nameOf_7 ?_
  refine lv_iload_n hx hb dX3_nameOf_8 rfl (lv_at hl 2 rfl) ?_
  refine lv_ior hx hb dX3_nameOf_9 ?_
  have h9 : (((((nI t) <<< (2 &&& 31)) ||| (nI f)) <<< (7 &&& 31)) ||| (nI u) : Int32) = nI (t * 512 + f * 128 + u) := by rw [show nI t <<< ((2 : Int32) &&& 31) = nI (t * 2 ^ 2) from pk_shlN _ 2 (by decide) (by omega), nI_or (by omega), show nI (t * 2 ^ 2 + f) <<< ((7 : Int32) &&& 31) = nI ((t * 2 ^ 2 + f) * 2 ^ 7) from pk_shlN _ 7 (by decide) (by omega), nI_or (by omega)]; congr 1; omega
  exact W.iret (v := ((((nI t) <<< (2 &&& 31)) ||| (nI f)) <<< (7 &&& 31)) ||| (nI u)) hx hb hr (fun t ht _ => ⟨congrArg (fun z => Outcome.returned (some (Value.int z))) h9, ht⟩) (fun _ h => nomatch h) dX3_nameOf_10

set_option maxHeartbeats 4000000 in
set_option maxRecDepth 100000 in
theorem cX0_hadSeen_r {l : Launch} {D : va_G} {cA : Nat → ClassId} {adr : Nat → Nat} {n : Nat} {E : Nat → va_E} {k : Nat} {mo : Nat → Int32} {mt sn wt : Int32} {ib : Bool} (hk : k + 1 < n) (hE0 : E k = .inr (0, [.ref (adr (k + 1)), .int mt, .int sn, .int wt, .int (bI ib)])) (hE1 : E (k + 1) = .inl (cA 0, 120, .inl mo)) {j : Nat} (hj : j < 120) (by_ : Int32) : Met l yX0_hadSeen (.code yX0_hadSeen cX0_hadSeen 3 (some .boolean) :: lw_G) ({ frames := 0, cells := 0, slots := 0, locals := 0 } : Room) (va_Pc [.ref (adr k), .int (nI j), .int by_] (wdU D (kty cA) adr n E)) (QcRead (bI (decide (0 < mo j) && decide (mo j ≤ by_)))) 0 0 (fun _ => False) := by
  refine Met.ofW (cc := cX0_hadSeen) (maxL := 3) (ret := (some .boolean)) (by decide) rfl ?_
  intro p e s m args below meth c s₁ B hml hv
  obtain ⟨rfl, hP, hN⟩ := hv
  have hx := B.exec
  have hb := B.bytes
  have hr := B.returns
  have hG : ∀ w ∈ lw_G, w.before _ s = true := fun w h => atoms_spec (ws := _ :: lw_G) B.pre w (List.mem_cons_of_mem _ h)
  have hown : s.vm.findClass RX0 = some m.cls := findClass_of_methodNamed B.named
  have hlocks := B.notSynchronized
  have hK := hN.1
  have hl := lv_entry ([.ref (adr k), .int (nI j), .int by_]) (n := 3) (Nat.le_of_ble_eq_true rfl)
  rw [lg_entry_eq]
  generalize (lg_sl ([.ref (adr k), .int (nI j), .int by_]) ++ List.replicate (3 - (lg_sl ([.ref (adr k), .int (nI j), .int by_])).length) Slot.unset).toArray = ls at hl ⊢
  have hl : lv_has ls 3 [(0, .ref (adr k)), (1, .int (nI j)), (2, .int by_)] := hl
  refine lv_aload_n hx hb dX0_hadSeen_0 rfl (lv_at hl 0 rfl) ?_
  refine va_get (D := D) (ci := 0) (v := .ref (adr (k + 1))) (C := RX0) (T := TX0) (N := 5) hx hb hG inG_X0 hown hK hP k (wl_at (by omega) hE0) rfl 0 (by decide) (hG _ g_79) (fun _ h9 => h9) rfl dX0_hadSeen_1 ?_
  refine lv_iload_n hx hb dX0_hadSeen_4 rfl (lv_at hl 1 rfl) ?_
  refine wn_iald (j := j) hx hb hK hP (by omega) hE1 (by omega) (by decide) dX0_hadSeen_5 ?_
  refine lv_if_le (tgt := 23) hx hb dX0_hadSeen_6 (by decide) (fun c6 => ?_) (fun c6 => ?_)
  · refine lv_iconst (v := 0) hx hb dX0_hadSeen_23 (by decide) ?_
    have h9 : (0 : Int32) = bI (decide (0 < mo j) && decide (mo j ≤ by_)) := by first | (rw [show decide (0 < mo j) = false from by simpa using c6]; rfl) | (rw [show decide (mo j ≤ by_) = false from by simpa using c16, Bool.and_false]; rfl)
    exact W.zret (v := 0) hx hb hr (by first | rfl | exact bI_nar _) (fun t ht _ => ⟨congrArg (fun z => Outcome.returned (some (Value.int z))) h9, ht⟩) (fun _ h => nomatch h) dX0_hadSeen_24
  · refine lv_aload_n hx hb dX0_hadSeen_9 rfl (lv_at hl 0 rfl) ?_
    refine va_get (D := D) (ci := 0) (v := .ref (adr (k + 1))) (C := RX0) (T := TX0) (N := 5) hx hb hG inG_X0 hown hK hP k (wl_at (by omega) hE0) rfl 0 (by decide) (hG _ g_79) (fun _ h9 => h9) rfl dX0_hadSeen_10 ?_
    refine lv_iload_n hx hb dX0_hadSeen_13 rfl (lv_at hl 1 rfl) ?_
    refine wn_iald (j := j) hx hb hK hP (by omega) hE1 (by omega) (by decide) dX0_hadSeen_14 ?_
    refine lv_iload_n hx hb dX0_hadSeen_15 rfl (lv_at hl 2 rfl) ?_
    refine lv_icmp_gt (tgt := 23) hx hb dX0_hadSeen_16 (by decide) (fun c16 => ?_) (fun c16 => ?_)
    · refine lv_iconst (v := 0) hx hb dX0_hadSeen_23 (by decide) ?_
      have h9 : (0 : Int32) = bI (decide (0 < mo j) && decide (mo j ≤ by_)) := by first | (rw [show decide (0 < mo j) = false from by simpa using c6]; rfl) | (rw [show decide (mo j ≤ by_) = false from by simpa using c16, Bool.and_false]; rfl)
      exact W.zret (v := 0) hx hb hr (by first | rfl | exact bI_nar _) (fun t ht _ => ⟨congrArg (fun z => Outcome.returned (some (Value.int z))) h9, ht⟩) (fun _ h => nomatch h) dX0_hadSeen_24
    · refine lv_iconst (v := 1) hx hb dX0_hadSeen_19 (by decide) ?_
      refine lv_goto (tgt := 24) hx hb dX0_hadSeen_20 (by decide) ?_
      have h9 : (1 : Int32) = bI (decide (0 < mo j) && decide (mo j ≤ by_)) := by rw [show decide (0 < mo j) = true from by simpa using c6, show decide (mo j ≤ by_) = true from by simpa using c16]; rfl
      exact W.zret (v := 1) hx hb hr (by first | rfl | exact bI_nar _) (fun t ht _ => ⟨congrArg (fun z => Outcome.returned (some (Value.int z))) h9, ht⟩) (fun _ h => nomatch h) dX0_hadSeen_24

set_option maxHeartbeats 4000000 in
set_option maxRecDepth 100000 in
theorem cX2_areRivals_r {l : Launch} {D : va_G} {cA : Nat → ClassId} {adr : Nat → Nat} {n : Nat} {E : Nat → va_E} {k ct : Nat} {nm td : Nat → Nat} {vl : Nat → Int32} {sd : Nat → Bool} (hk : k + 4 < n) (hct : ct ≤ 120) (hE0 : E k = .inr (2, [.ref (adr (k + 1)), .ref (adr (k + 2)), .ref (adr (k + 3)), .ref (adr (k + 4)), .int (nI ct)])) (hE1 : E (k + 1) = .inl (cA 0, 120, .inl (fun j => nI (nm j)))) (hE2 : E (k + 2) = .inl (cA 0, 120, .inl (fun j => nI (td j)))) (hE3 : E (k + 3) = .inl (cA 0, 120, .inl vl)) (hE4 : E (k + 4) = .inl (cA 1, 120, .inl (fun j => bI (sd j)))) (hnm : ∀ j, nm j < 2560) (htd : ∀ j, td j < 2 ^ 30) {i j : Nat} (hi : i < 120) (hj : j < 120) : Met l yX2_areRivals (.code yX2_areRivals cX2_areRivals 3 (some .boolean) :: lw_G) ({ frames := 0, cells := 0, slots := 0, locals := 0 } : Room) (va_Pc [.ref (adr k), .int (nI i), .int (nI j)] (wdU D (kty cA) adr n E)) (QcRead (bI (!decide (i = j) && decide (nm i = nm j)))) 0 0 (fun _ => False) := by
  refine Met.ofW (cc := cX2_areRivals) (maxL := 3) (ret := (some .boolean)) (by decide) rfl ?_
  intro p e s m args below meth c s₁ B hml hv
  obtain ⟨rfl, hP, hN⟩ := hv
  have hx := B.exec
  have hb := B.bytes
  have hr := B.returns
  have hG : ∀ w ∈ lw_G, w.before _ s = true := fun w h => atoms_spec (ws := _ :: lw_G) B.pre w (List.mem_cons_of_mem _ h)
  have hown : s.vm.findClass RX2 = some m.cls := findClass_of_methodNamed B.named
  have hlocks := B.notSynchronized
  have hK := hN.1
  have hl := lv_entry ([.ref (adr k), .int (nI i), .int (nI j)]) (n := 3) (Nat.le_of_ble_eq_true rfl)
  rw [lg_entry_eq]
  generalize (lg_sl ([.ref (adr k), .int (nI i), .int (nI j)]) ++ List.replicate (3 - (lg_sl ([.ref (adr k), .int (nI i), .int (nI j)])).length) Slot.unset).toArray = ls at hl ⊢
  have hl : lv_has ls 3 [(0, .ref (adr k)), (1, .int (nI i)), (2, .int (nI j))] := hl
  have b1 := hnm i
  have b2 := hnm j
  refine lv_iload_n hx hb dX2_areRivals_0 rfl (lv_at hl 1 rfl) ?_
  refine lv_iload_n hx hb dX2_areRivals_1 rfl (lv_at hl 2 rfl) ?_
  refine lv_icmp_eq (tgt := 24) hx hb dX2_areRivals_2 (by decide) (fun c2 => ?_) (fun c2 => ?_)
  · have n2 : i = j := (nI_eq (a := i) (b := j) (by omega) (by omega)).mp c2
    refine lv_iconst (v := 0) hx hb dX2_areRivals_24 (by decide) ?_
    have h9 : (0 : Int32) = bI (!decide (i = j) && decide (nm i = nm j)) := by first | (rw [show decide (i = j) = true from by simpa using n2]; rfl) | (rw [show decide (i = j) = false from by simpa using n2, show decide (nm i = nm j) = true from by simpa using n17]; rfl) | (rw [show decide (nm i = nm j) = false from by simpa using n17, Bool.and_false]; rfl)
    exact W.zret (v := 0) hx hb hr (by first | rfl | exact bI_nar _) (fun t ht _ => ⟨congrArg (fun z => Outcome.returned (some (Value.int z))) h9, ht⟩) (fun _ h => nomatch h) dX2_areRivals_25
  · have n2 : ¬ i = j := fun h => c2 ((nI_eq (a := i) (b := j) (by omega) (by omega)).mpr h)
    refine lv_aload_n hx hb dX2_areRivals_5 rfl (lv_at hl 0 rfl) ?_
    refine va_get (D := D) (ci := 2) (v := .ref (adr (k + 1))) (C := RX2) (T := TX2) (N := 5) hx hb hG inG_X2 hown hK hP k (wl_at (by omega) hE0) rfl 0 (by decide) (hG _ g_32) (fun _ h9 => h9) rfl dX2_areRivals_6 ?_
    refine lv_iload_n hx hb dX2_areRivals_9 rfl (lv_at hl 1 rfl) ?_
    refine wn_iald (j := i) hx hb hK hP (by omega) hE1 (by omega) (by decide) dX2_areRivals_10 ?_
    refine lv_aload_n hx hb dX2_areRivals_11 rfl (lv_at hl 0 rfl) ?_
    refine va_get (D := D) (ci := 2) (v := .ref (adr (k + 1))) (C := RX2) (T := TX2) (N := 5) hx hb hG inG_X2 hown hK hP k (wl_at (by omega) hE0) rfl 0 (by decide) (hG _ g_32) (fun _ h9 => h9) rfl dX2_areRivals_12 ?_
    refine lv_iload_n hx hb dX2_areRivals_15 rfl (lv_at hl 2 rfl) ?_
    refine wn_iald (j := j) hx hb hK hP (by omega) hE1 (by omega) (by decide) dX2_areRivals_16 ?_
    refine lv_icmp_ne (tgt := 24) hx hb dX2_areRivals_17 (by decide) (fun c17 => ?_) (fun c17 => ?_)
    · have n17 : ¬ (nm i) = (nm j) := fun h => c17 ((nI_eq (a := (nm i)) (b := (nm j)) (by omega) (by omega)).mpr h)
      refine lv_iconst (v := 0) hx hb dX2_areRivals_24 (by decide) ?_
      have h9 : (0 : Int32) = bI (!decide (i = j) && decide (nm i = nm j)) := by first | (rw [show decide (i = j) = true from by simpa using n2]; rfl) | (rw [show decide (i = j) = false from by simpa using n2, show decide (nm i = nm j) = true from by simpa using n17]; rfl) | (rw [show decide (nm i = nm j) = false from by simpa using n17, Bool.and_false]; rfl)
      exact W.zret (v := 0) hx hb hr (by first | rfl | exact bI_nar _) (fun t ht _ => ⟨congrArg (fun z => Outcome.returned (some (Value.int z))) h9, ht⟩) (fun _ h => nomatch h) dX2_areRivals_25
    · have n17 : (nm i) = (nm j) := (nI_eq (a := (nm i)) (b := (nm j)) (by omega) (by omega)).mp c17
      refine lv_iconst (v := 1) hx hb dX2_areRivals_20 (by decide) ?_
      refine lv_goto (tgt := 25) hx hb dX2_areRivals_21 (by decide) ?_
      have h9 : (1 : Int32) = bI (!decide (i = j) && decide (nm i = nm j)) := by first | (rw [show decide (i = j) = true from by simpa using n2]; rfl) | (rw [show decide (i = j) = false from by simpa using n2, show decide (nm i = nm j) = true from by simpa using n17]; rfl) | (rw [show decide (nm i = nm j) = false from by simpa using n17, Bool.and_false]; rfl)
      exact W.zret (v := 1) hx hb hr (by first | rfl | exact bI_nar _) (fun t ht _ => ⟨congrArg (fun z => Outcome.returned (some (Value.int z))) h9, ht⟩) (fun _ h => nomatch h) dX2_areRivals_25

set_option maxHeartbeats 4000000 in
set_option maxRecDepth 100000 in
theorem cX2_teller_r {l : Launch} {D : va_G} {cA : Nat → ClassId} {adr : Nat → Nat} {n : Nat} {E : Nat → va_E} {k ct : Nat} {nm td : Nat → Nat} {vl : Nat → Int32} {sd : Nat → Bool} (hk : k + 4 < n) (hct : ct ≤ 120) (hE0 : E k = .inr (2, [.ref (adr (k + 1)), .ref (adr (k + 2)), .ref (adr (k + 3)), .ref (adr (k + 4)), .int (nI ct)])) (hE1 : E (k + 1) = .inl (cA 0, 120, .inl (fun j => nI (nm j)))) (hE2 : E (k + 2) = .inl (cA 0, 120, .inl (fun j => nI (td j)))) (hE3 : E (k + 3) = .inl (cA 0, 120, .inl vl)) (hE4 : E (k + 4) = .inl (cA 1, 120, .inl (fun j => bI (sd j)))) (hnm : ∀ j, nm j < 2560) (htd : ∀ j, td j < 2 ^ 30) {i : Nat} (hi : i < 120) : Met l yX2_teller (.code yX2_teller cX2_teller 2 (some .int) :: lw_G) ({ frames := 0, cells := 0, slots := 0, locals := 0 } : Room) (va_Pc [.ref (adr k), .int (nI i)] (wdU D (kty cA) adr n E)) (QcRead (nI (nm i / 512))) 0 0 (fun _ => False) := by
  refine Met.ofW (cc := cX2_teller) (maxL := 2) (ret := (some .int)) (by decide) rfl ?_
  intro p e s m args below meth c s₁ B hml hv
  obtain ⟨rfl, hP, hN⟩ := hv
  have hx := B.exec
  have hb := B.bytes
  have hr := B.returns
  have hG : ∀ w ∈ lw_G, w.before _ s = true := fun w h => atoms_spec (ws := _ :: lw_G) B.pre w (List.mem_cons_of_mem _ h)
  have hown : s.vm.findClass RX2 = some m.cls := findClass_of_methodNamed B.named
  have hlocks := B.notSynchronized
  have hK := hN.1
  have hl := lv_entry ([.ref (adr k), .int (nI i)]) (n := 2) (Nat.le_of_ble_eq_true rfl)
  rw [lg_entry_eq]
  generalize (lg_sl ([.ref (adr k), .int (nI i)]) ++ List.replicate (2 - (lg_sl ([.ref (adr k), .int (nI i)])).length) Slot.unset).toArray = ls at hl ⊢
  have hl : lv_has ls 2 [(0, .ref (adr k)), (1, .int (nI i))] := hl
  have b1 := hnm i
  refine lv_aload_n hx hb dX2_teller_0 rfl (lv_at hl 0 rfl) ?_
  refine va_get (D := D) (ci := 2) (v := .ref (adr (k + 1))) (C := RX2) (T := TX2) (N := 5) hx hb hG inG_X2 hown hK hP k (wl_at (by omega) hE0) rfl 0 (by decide) (hG _ g_32) (fun _ h9 => h9) rfl dX2_teller_1 ?_
  refine lv_iload_n hx hb dX2_teller_4 rfl (lv_at hl 1 rfl) ?_
  refine wn_iald (j := i) hx hb hK hP (by omega) hE1 (by omega) (by decide) dX2_teller_5 ?_
  refine lv_bipush (v := 9) hx hb dX2_teller_6 (by decide) ?_
  refine lv_ishr hx hb dX2_teller_8 ?_
  have h9 : ((nI (nm i)) >>> (9 &&& 31) : Int32) = nI (nm i / 512) := by rw [pk_shrN (by omega) _ 9 (by decide)]
  exact W.iret (v := (nI (nm i)) >>> (9 &&& 31)) hx hb hr (fun t ht _ => ⟨congrArg (fun z => Outcome.returned (some (Value.int z))) h9, ht⟩) (fun _ h => nomatch h) dX2_teller_9

set_option maxHeartbeats 4000000 in
set_option maxRecDepth 100000 in
theorem cX2_life_r {l : Launch} {D : va_G} {cA : Nat → ClassId} {adr : Nat → Nat} {n : Nat} {E : Nat → va_E} {k ct : Nat} {nm td : Nat → Nat} {vl : Nat → Int32} {sd : Nat → Bool} (hk : k + 4 < n) (hct : ct ≤ 120) (hE0 : E k = .inr (2, [.ref (adr (k + 1)), .ref (adr (k + 2)), .ref (adr (k + 3)), .ref (adr (k + 4)), .int (nI ct)])) (hE1 : E (k + 1) = .inl (cA 0, 120, .inl (fun j => nI (nm j)))) (hE2 : E (k + 2) = .inl (cA 0, 120, .inl (fun j => nI (td j)))) (hE3 : E (k + 3) = .inl (cA 0, 120, .inl vl)) (hE4 : E (k + 4) = .inl (cA 1, 120, .inl (fun j => bI (sd j)))) (hnm : ∀ j, nm j < 2560) (htd : ∀ j, td j < 2 ^ 30) {i : Nat} (hi : i < 120) : Met l yX2_life (.code yX2_life cX2_life 2 (some .int) :: lw_G) ({ frames := 1, cells := 0, slots := 0, locals := 21 } : Room) (va_Pc [.ref (adr k), .int (nI i)] (wdU D (kty cA) adr n E)) (QcRead (nI (nm i / 128 % 4))) 0 0 (fun _ => False) := by
  refine Met.ofW (cc := cX2_life) (maxL := 2) (ret := (some .int)) (by decide) rfl ?_
  intro p e s m args below meth c s₁ B hml hv
  obtain ⟨rfl, hP, hN⟩ := hv
  have hx := B.exec
  have hb := B.bytes
  have hr := B.returns
  have hG : ∀ w ∈ lw_G, w.before _ s = true := fun w h => atoms_spec (ws := _ :: lw_G) B.pre w (List.mem_cons_of_mem _ h)
  have hown : s.vm.findClass RX2 = some m.cls := findClass_of_methodNamed B.named
  have hlocks := B.notSynchronized
  have hK := hN.1
  have hl := lv_entry ([.ref (adr k), .int (nI i)]) (n := 2) (Nat.le_of_ble_eq_true rfl)
  rw [lg_entry_eq]
  generalize (lg_sl ([.ref (adr k), .int (nI i)]) ++ List.replicate (2 - (lg_sl ([.ref (adr k), .int (nI i)])).length) Slot.unset).toArray = ls at hl ⊢
  have hl : lv_has ls 2 [(0, .ref (adr k)), (1, .int (nI i))] := hl
  have b1 := hnm i
  refine lv_aload_n hx hb dX2_life_0 rfl (lv_at hl 0 rfl) ?_
  refine va_get (D := D) (ci := 2) (v := .ref (adr (k + 1))) (C := RX2) (T := TX2) (N := 5) hx hb hG inG_X2 hown hK hP k (wl_at (by omega) hE0) rfl 0 (by decide) (hG _ g_32) (fun _ h9 => h9) rfl dX2_life_1 ?_
  refine lv_iload_n hx hb dX2_life_4 rfl (lv_at hl 1 rfl) ?_
  refine wn_iald (j := i) hx hb hK hP (by omega) hE1 (by omega) (by decide) dX2_life_5 ?_
  refine lv_bipush (v := 7) hx hb dX2_life_6 (by decide) ?_
  refine lv_ishr hx hb dX2_life_8 ?_
  refine lv_iconst (v := 2) hx hb dX2_life_9 (by decide) ?_
  refine wn_rSN (rest := []) hx hb hml hown hG (cX3_lowBits_r _ _) ⟨va_cnB (host := "ToldRows") 2 hG (gI g_279) rfl rfl rfl (hN.2 _ kN_lowBits) (hG _ g_1) (by decide +kernel) ⟨Nat.le_of_ble_eq_true rfl, Nat.le_of_ble_eq_true rfl⟩, hG _ g_278, trivial⟩ rfl hl.1 rfl (Nat.le_of_ble_eq_true rfl) dX2_life_10 ⟨Nat.zero_le _, Nat.zero_le _⟩ ?_
  have h9 : (((nI (nm i)) >>> (7 &&& 31)) &&& ((1 <<< ((2 : Int32) &&& 31)) - 1) : Int32) = nI (nm i / 128 % 4) := by rw [show ((1 : Int32) <<< ((2 : Int32) &&& 31)) - 1 = 3 from by decide, pk_shrN (by omega) _ 7 (by decide), pk_andN (by omega) 2 (by decide)]
  exact W.iret (v := ((nI (nm i)) >>> (7 &&& 31)) &&& ((1 <<< ((2 : Int32) &&& 31)) - 1)) hx hb hr (fun t ht _ => ⟨congrArg (fun z => Outcome.returned (some (Value.int z))) h9, ht⟩) (fun _ h => nomatch h) dX2_life_13

set_option maxHeartbeats 4000000 in
set_option maxRecDepth 100000 in
theorem cX2_number_r {l : Launch} {D : va_G} {cA : Nat → ClassId} {adr : Nat → Nat} {n : Nat} {E : Nat → va_E} {k ct : Nat} {nm td : Nat → Nat} {vl : Nat → Int32} {sd : Nat → Bool} (hk : k + 4 < n) (hct : ct ≤ 120) (hE0 : E k = .inr (2, [.ref (adr (k + 1)), .ref (adr (k + 2)), .ref (adr (k + 3)), .ref (adr (k + 4)), .int (nI ct)])) (hE1 : E (k + 1) = .inl (cA 0, 120, .inl (fun j => nI (nm j)))) (hE2 : E (k + 2) = .inl (cA 0, 120, .inl (fun j => nI (td j)))) (hE3 : E (k + 3) = .inl (cA 0, 120, .inl vl)) (hE4 : E (k + 4) = .inl (cA 1, 120, .inl (fun j => bI (sd j)))) (hnm : ∀ j, nm j < 2560) (htd : ∀ j, td j < 2 ^ 30) {i : Nat} (hi : i < 120) : Met l yX2_number (.code yX2_number cX2_number 2 (some .int) :: lw_G) ({ frames := 1, cells := 0, slots := 0, locals := 21 } : Room) (va_Pc [.ref (adr k), .int (nI i)] (wdU D (kty cA) adr n E)) (QcRead (nI (nm i % 128))) 0 0 (fun _ => False) := by
  refine Met.ofW (cc := cX2_number) (maxL := 2) (ret := (some .int)) (by decide) rfl ?_
  intro p e s m args below meth c s₁ B hml hv
  obtain ⟨rfl, hP, hN⟩ := hv
  have hx := B.exec
  have hb := B.bytes
  have hr := B.returns
  have hG : ∀ w ∈ lw_G, w.before _ s = true := fun w h => atoms_spec (ws := _ :: lw_G) B.pre w (List.mem_cons_of_mem _ h)
  have hown : s.vm.findClass RX2 = some m.cls := findClass_of_methodNamed B.named
  have hlocks := B.notSynchronized
  have hK := hN.1
  have hl := lv_entry ([.ref (adr k), .int (nI i)]) (n := 2) (Nat.le_of_ble_eq_true rfl)
  rw [lg_entry_eq]
  generalize (lg_sl ([.ref (adr k), .int (nI i)]) ++ List.replicate (2 - (lg_sl ([.ref (adr k), .int (nI i)])).length) Slot.unset).toArray = ls at hl ⊢
  have hl : lv_has ls 2 [(0, .ref (adr k)), (1, .int (nI i))] := hl
  have b1 := hnm i
  refine lv_aload_n hx hb dX2_number_0 rfl (lv_at hl 0 rfl) ?_
  refine va_get (D := D) (ci := 2) (v := .ref (adr (k + 1))) (C := RX2) (T := TX2) (N := 5) hx hb hG inG_X2 hown hK hP k (wl_at (by omega) hE0) rfl 0 (by decide) (hG _ g_32) (fun _ h9 => h9) rfl dX2_number_1 ?_
  refine lv_iload_n hx hb dX2_number_4 rfl (lv_at hl 1 rfl) ?_
  refine wn_iald (j := i) hx hb hK hP (by omega) hE1 (by omega) (by decide) dX2_number_5 ?_
  refine lv_bipush (v := 7) hx hb dX2_number_6 (by decide) ?_
  refine wn_rSN (rest := []) hx hb hml hown hG (cX3_lowBits_r _ _) ⟨va_cnB (host := "ToldRows") 2 hG (gI g_279) rfl rfl rfl (hN.2 _ kN_lowBits) (hG _ g_1) (by decide +kernel) ⟨Nat.le_of_ble_eq_true rfl, Nat.le_of_ble_eq_true rfl⟩, hG _ g_278, trivial⟩ rfl hl.1 rfl (Nat.le_of_ble_eq_true rfl) dX2_number_8 ⟨Nat.zero_le _, Nat.zero_le _⟩ ?_
  have h9 : ((nI (nm i)) &&& ((1 <<< ((7 : Int32) &&& 31)) - 1) : Int32) = nI (nm i % 128) := by rw [show ((1 : Int32) <<< ((7 : Int32) &&& 31)) - 1 = 127 from by decide, pk_andN (by omega) 7 (by decide)]
  exact W.iret (v := (nI (nm i)) &&& ((1 <<< ((7 : Int32) &&& 31)) - 1)) hx hb hr (fun t ht _ => ⟨congrArg (fun z => Outcome.returned (some (Value.int z))) h9, ht⟩) (fun _ h => nomatch h) dX2_number_11

set_option maxHeartbeats 4000000 in
set_option maxRecDepth 100000 in
theorem cX2_key_r {l : Launch} {D : va_G} {cA : Nat → ClassId} {adr : Nat → Nat} {n : Nat} {E : Nat → va_E} {k ct : Nat} {nm td : Nat → Nat} {vl : Nat → Int32} {sd : Nat → Bool} (hk : k + 4 < n) (hct : ct ≤ 120) (hE0 : E k = .inr (2, [.ref (adr (k + 1)), .ref (adr (k + 2)), .ref (adr (k + 3)), .ref (adr (k + 4)), .int (nI ct)])) (hE1 : E (k + 1) = .inl (cA 0, 120, .inl (fun j => nI (nm j)))) (hE2 : E (k + 2) = .inl (cA 0, 120, .inl (fun j => nI (td j)))) (hE3 : E (k + 3) = .inl (cA 0, 120, .inl vl)) (hE4 : E (k + 4) = .inl (cA 1, 120, .inl (fun j => bI (sd j)))) (hnm : ∀ j, nm j < 2560) (htd : ∀ j, td j < 2 ^ 30) {i : Nat} (hi : i < 120) : Met l yX2_key (.code yX2_key cX2_key 2 (some .int) :: lw_G) ({ frames := 2, cells := 0, slots := 0, locals := 41 } : Room) (va_Pc [.ref (adr k), .int (nI i)] (wdU D (kty cA) adr n E)) (QcRead (nI (td i / 2 ^ 20 % 8))) 0 0 (fun _ => False) := by
  refine Met.ofW (cc := cX2_key) (maxL := 2) (ret := (some .int)) (by decide) rfl ?_
  intro p e s m args below meth c s₁ B hml hv
  obtain ⟨rfl, hP, hN⟩ := hv
  have hx := B.exec
  have hb := B.bytes
  have hr := B.returns
  have hG : ∀ w ∈ lw_G, w.before _ s = true := fun w h => atoms_spec (ws := _ :: lw_G) B.pre w (List.mem_cons_of_mem _ h)
  have hown : s.vm.findClass RX2 = some m.cls := findClass_of_methodNamed B.named
  have hlocks := B.notSynchronized
  have hK := hN.1
  have hl := lv_entry ([.ref (adr k), .int (nI i)]) (n := 2) (Nat.le_of_ble_eq_true rfl)
  rw [lg_entry_eq]
  generalize (lg_sl ([.ref (adr k), .int (nI i)]) ++ List.replicate (2 - (lg_sl ([.ref (adr k), .int (nI i)])).length) Slot.unset).toArray = ls at hl ⊢
  have hl : lv_has ls 2 [(0, .ref (adr k)), (1, .int (nI i))] := hl
  have b1 := htd i
  refine lv_aload_n hx hb dX2_key_0 rfl (lv_at hl 0 rfl) ?_
  refine va_get (D := D) (ci := 2) (v := .ref (adr (k + 2))) (C := RX2) (T := TX2) (N := 5) hx hb hG inG_X2 hown hK hP k (wl_at (by omega) hE0) rfl 1 (by decide) (hG _ g_34) (fun _ h9 => h9) rfl dX2_key_1 ?_
  refine lv_iload_n hx hb dX2_key_4 rfl (lv_at hl 1 rfl) ?_
  refine wn_iald (j := i) hx hb hK hP (by omega) hE2 (by omega) (by decide) dX2_key_5 ?_
  refine wn_rSN (rest := []) hx hb hml hown hG (cX3_keyIn_r _) ⟨va_cnB (host := "ToldRows") 1 hG (gI g_419) rfl rfl rfl (hN.2 _ kN_keyIn) (hG _ g_1) (by decide +kernel) ⟨Nat.le_of_ble_eq_true rfl, Nat.le_of_ble_eq_true rfl⟩, hG _ g_418, trivial⟩ rfl hl.1 rfl (Nat.le_of_ble_eq_true rfl) dX2_key_6 ⟨Nat.zero_le _, Nat.zero_le _⟩ ?_
  have h9 : (((nI (td i)) >>> ((20 : Int32) &&& 31)) &&& 7 : Int32) = nI (td i / 2 ^ 20 % 8) := by rw [pk_shrN (by omega) _ 20 (by decide), pk_andN (by omega) 3 (by decide)]
  exact W.iret (v := ((nI (td i)) >>> ((20 : Int32) &&& 31)) &&& 7) hx hb hr (fun t ht _ => ⟨congrArg (fun z => Outcome.returned (some (Value.int z))) h9, ht⟩) (fun _ h => nomatch h) dX2_key_9

set_option maxHeartbeats 4000000 in
set_option maxRecDepth 100000 in
theorem cX2_rank_r {l : Launch} {D : va_G} {cA : Nat → ClassId} {adr : Nat → Nat} {n : Nat} {E : Nat → va_E} {k ct : Nat} {nm td : Nat → Nat} {vl : Nat → Int32} {sd : Nat → Bool} (hk : k + 4 < n) (hct : ct ≤ 120) (hE0 : E k = .inr (2, [.ref (adr (k + 1)), .ref (adr (k + 2)), .ref (adr (k + 3)), .ref (adr (k + 4)), .int (nI ct)])) (hE1 : E (k + 1) = .inl (cA 0, 120, .inl (fun j => nI (nm j)))) (hE2 : E (k + 2) = .inl (cA 0, 120, .inl (fun j => nI (td j)))) (hE3 : E (k + 3) = .inl (cA 0, 120, .inl vl)) (hE4 : E (k + 4) = .inl (cA 1, 120, .inl (fun j => bI (sd j)))) (hnm : ∀ j, nm j < 2560) (htd : ∀ j, td j < 2 ^ 30) {i : Nat} (hi : i < 120) : Met l yX2_rank (.code yX2_rank cX2_rank 2 (some .int) :: lw_G) ({ frames := 2, cells := 0, slots := 0, locals := 43 } : Room) (va_Pc [.ref (adr k), .int (nI i)] (wdU D (kty cA) adr n E)) (QcRead (nI (nm i / 128 % 4 * 1024 + nm i / 512 * 128 + nm i % 128))) 0 0 (fun _ => False) := by
  refine Met.ofW (cc := cX2_rank) (maxL := 2) (ret := (some .int)) (by decide) rfl ?_
  intro p e s m args below meth c s₁ B hml hv
  obtain ⟨rfl, hP, hN⟩ := hv
  have hx := B.exec
  have hb := B.bytes
  have hr := B.returns
  have hG : ∀ w ∈ lw_G, w.before _ s = true := fun w h => atoms_spec (ws := _ :: lw_G) B.pre w (List.mem_cons_of_mem _ h)
  have hown : s.vm.findClass RX2 = some m.cls := findClass_of_methodNamed B.named
  have hlocks := B.notSynchronized
  have hK := hN.1
  have hl := lv_entry ([.ref (adr k), .int (nI i)]) (n := 2) (Nat.le_of_ble_eq_true rfl)
  rw [lg_entry_eq]
  generalize (lg_sl ([.ref (adr k), .int (nI i)]) ++ List.replicate (2 - (lg_sl ([.ref (adr k), .int (nI i)])).length) Slot.unset).toArray = ls at hl ⊢
  have hl : lv_has ls 2 [(0, .ref (adr k)), (1, .int (nI i))] := hl
  have b1 := hnm i
  refine lv_aload_n hx hb dX2_rank_0 rfl (lv_at hl 0 rfl) ?_
  refine lv_iload_n hx hb dX2_rank_1 rfl (lv_at hl 1 rfl) ?_
  refine wn_rV (rest := []) hx hb hml hown hG hN hP (cX2_life_r hk hct hE0 hE1 hE2 hE3 hE4 hnm htd hi) (cwV 1 hG (gV g_440 g_441 g_442 g_2 g_443) rfl rfl rfl (by decide +kernel) ⟨Nat.le_of_ble_eq_true rfl, Nat.le_of_ble_eq_true rfl⟩) (by omega) hE0 rfl rfl hl.1 rfl (Nat.le_of_ble_eq_true rfl) dX2_rank_2 ⟨Nat.zero_le _, Nat.zero_le _⟩ ?_
  refine lv_iconst (v := 3) hx hb dX2_rank_5 (by decide) ?_
  refine lv_ishl hx hb dX2_rank_6 ?_
  refine lv_aload_n hx hb dX2_rank_7 rfl (lv_at hl 0 rfl) ?_
  refine lv_iload_n hx hb dX2_rank_8 rfl (lv_at hl 1 rfl) ?_
  refine wn_rV (rest := [.int ((nI (nm i / 128 % 4)) <<< (3 &&& 31))]) hx hb hml hown hG hN hP (cX2_teller_r hk hct hE0 hE1 hE2 hE3 hE4 hnm htd hi) (cwV 1 hG (gV g_445 g_433 g_434 g_2 g_435) rfl rfl rfl (by decide +kernel) ⟨Nat.le_of_ble_eq_true rfl, Nat.le_of_ble_eq_true rfl⟩) (by omega) hE0 rfl rfl hl.1 rfl (Nat.le_of_ble_eq_true rfl) dX2_rank_9 ⟨Nat.zero_le _, Nat.zero_le _⟩ ?_
  refine lv_ior hx hb dX2_rank_12 ?_
  refine lv_bipush (v := 7) hx hb dX2_rank_13 (by decide) ?_
  refine lv_ishl hx hb dX2_rank_15 ?_
  refine lv_aload_n hx hb dX2_rank_16 rfl (lv_at hl 0 rfl) ?_
  refine lv_iload_n hx hb dX2_rank_17 rfl (lv_at hl 1 rfl) ?_
  refine wn_rV (rest := [.int ((((nI (nm i / 128 % 4)) <<< (3 &&& 31)) ||| (nI (nm i / 512))) <<< (7 &&& 31))]) hx hb hml hown hG hN hP (cX2_number_r hk hct hE0 hE1 hE2 hE3 hE4 hnm htd hi) (cwV 1 hG (gV g_446 g_447 g_448 g_2 g_449) rfl rfl rfl (by decide +kernel) ⟨Nat.le_of_ble_eq_true rfl, Nat.le_of_ble_eq_true rfl⟩) (by omega) hE0 rfl rfl hl.1 rfl (Nat.le_of_ble_eq_true rfl) dX2_rank_18 ⟨Nat.zero_le _, Nat.zero_le _⟩ ?_
  refine lv_ior hx hb dX2_rank_21 ?_
  have h9 : (((((nI (nm i / 128 % 4)) <<< (3 &&& 31)) ||| (nI (nm i / 512))) <<< (7 &&& 31)) ||| (nI (nm i % 128)) : Int32) = nI (nm i / 128 % 4 * 1024 + nm i / 512 * 128 + nm i % 128) := by rw [show nI (nm i / 128 % 4) <<< ((3 : Int32) &&& 31) = nI ((nm i / 128 % 4) * 2 ^ 3) from pk_shlN _ 3 (by decide) (by omega), nI_or (by omega), show nI (nm i / 128 % 4 * 2 ^ 3 + nm i / 512) <<< ((7 : Int32) &&& 31) = nI ((nm i / 128 % 4 * 2 ^ 3 + nm i / 512) * 2 ^ 7) from pk_shlN _ 7 (by decide) (by omega), nI_or (by omega)]; congr 1; omega
  exact W.iret (v := ((((nI (nm i / 128 % 4)) <<< (3 &&& 31)) ||| (nI (nm i / 512))) <<< (7 &&& 31)) ||| (nI (nm i % 128))) hx hb hr (fun t ht _ => ⟨congrArg (fun z => Outcome.returned (some (Value.int z))) h9, ht⟩) (fun _ h => nomatch h) dX2_rank_22

set_option maxHeartbeats 4000000 in
set_option maxRecDepth 100000 in
theorem cX1_canFollow_r {l : Launch} {D : va_G} {cA : Nat → ClassId} {adr : Nat → Nat} {n : Nat} {E : Nat → va_E} {k mk lf : Nat} {ow re : Nat → Int32} (hk : k + 2 < n) (hm : mk ≤ 6) (hE0 : E k = .inr (1, [.ref (adr (k + 1)), .ref (adr (k + 2)), .int (nI mk), .int (nI lf)])) (hE1 : E (k + 1) = .inl (cA 0, 6, .inl ow)) (hE2 : E (k + 2) = .inl (cA 0, 6, .inl re)) (a b : Int32) : Met l yX1_canFollow (.code yX1_canFollow cX1_canFollow 3 (some .boolean) :: lw_G) ({ frames := 0, cells := 0, slots := 0, locals := 0 } : Room) (va_Pc [.ref (adr k), .int a, .int b] (wdU D (kty cA) adr n E)) (QcRead (bI (decide (mk = 0) || (decide (ow (mk - 1) < a) && decide (re (mk - 1) ≤ b))))) 0 0 (fun _ => False) := by
  refine Met.ofW (cc := cX1_canFollow) (maxL := 3) (ret := (some .boolean)) (by decide) rfl ?_
  intro p e s m args below meth c s₁ B hml hv
  obtain ⟨rfl, hP, hN⟩ := hv
  have hx := B.exec
  have hb := B.bytes
  have hr := B.returns
  have hG : ∀ w ∈ lw_G, w.before _ s = true := fun w h => atoms_spec (ws := _ :: lw_G) B.pre w (List.mem_cons_of_mem _ h)
  have hown : s.vm.findClass RX1 = some m.cls := findClass_of_methodNamed B.named
  have hlocks := B.notSynchronized
  have hK := hN.1
  have hl := lv_entry ([.ref (adr k), .int a, .int b]) (n := 3) (Nat.le_of_ble_eq_true rfl)
  rw [lg_entry_eq]
  generalize (lg_sl ([.ref (adr k), .int a, .int b]) ++ List.replicate (3 - (lg_sl ([.ref (adr k), .int a, .int b])).length) Slot.unset).toArray = ls at hl ⊢
  have hl : lv_has ls 3 [(0, .ref (adr k)), (1, .int a), (2, .int b)] := hl
  refine lv_aload_n hx hb dX1_canFollow_0 rfl (lv_at hl 0 rfl) ?_
  refine va_get (D := D) (ci := 1) (v := .int (nI mk)) (C := RX1) (T := TX1) (N := 4) hx hb hG inG_X1 hown hK hP k (wl_at (by omega) hE0) rfl 2 (by decide) (hG _ g_62) (fun _ h9 => h9) rfl dX1_canFollow_1 ?_
  refine lv_if_eq (tgt := 37) hx hb dX1_canFollow_4 (by decide) (fun c4 => ?_) (fun c4 => ?_)
  · have n4 : mk = 0 := (nI_eq (a := mk) (b := 0) (by omega) (by omega)).mp c4
    refine lv_iconst (v := 1) hx hb dX1_canFollow_37 (by decide) ?_
    refine lv_goto (tgt := 42) hx hb dX1_canFollow_38 (by decide) ?_
    have h9 : (1 : Int32) = bI (decide (mk = 0) || (decide (ow (mk - 1) < a) && decide (re (mk - 1) ≤ b))) := by first | (rw [show decide (mk = 0) = true from by simpa using n4]; rfl) | (rw [show decide (mk = 0) = false from by simpa using n4, show decide (ow (mk - 1) < a) = false from by simpa using c19]; rfl) | (rw [show decide (mk = 0) = false from by simpa using n4, show decide (ow (mk - 1) < a) = true from by simpa using c19, show decide (re (mk - 1) ≤ b) = true from by simpa using c34]; rfl) | (rw [show decide (mk = 0) = false from by simpa using n4, show decide (re (mk - 1) ≤ b) = false from by simpa using c34, Bool.and_false]; rfl)
    exact W.zret (v := 1) hx hb hr (by first | rfl | exact bI_nar _) (fun t ht _ => ⟨congrArg (fun z => Outcome.returned (some (Value.int z))) h9, ht⟩) (fun _ h => nomatch h) dX1_canFollow_42
  · have n4 : ¬ mk = 0 := fun h => c4 ((nI_eq (a := mk) (b := 0) (by omega) (by omega)).mpr h)
    refine lv_iload_n hx hb dX1_canFollow_7 rfl (lv_at hl 1 rfl) ?_
    refine lv_aload_n hx hb dX1_canFollow_8 rfl (lv_at hl 0 rfl) ?_
    refine va_get (D := D) (ci := 1) (v := .ref (adr (k + 1))) (C := RX1) (T := TX1) (N := 4) hx hb hG inG_X1 hown hK hP k (wl_at (by omega) hE0) rfl 0 (by decide) (hG _ g_60) (fun _ h9 => h9) rfl dX1_canFollow_9 ?_
    refine lv_aload_n hx hb dX1_canFollow_12 rfl (lv_at hl 0 rfl) ?_
    refine va_get (D := D) (ci := 1) (v := .int (nI mk)) (C := RX1) (T := TX1) (N := 4) hx hb hG inG_X1 hown hK hP k (wl_at (by omega) hE0) rfl 2 (by decide) (hG _ g_62) (fun _ h9 => h9) rfl dX1_canFollow_13 ?_
    refine lv_iconst (v := 1) hx hb dX1_canFollow_16 (by decide) ?_
    refine lv_isub hx hb dX1_canFollow_17 ?_
    refine lv_topi (fun y9 e9 => ?_)
    have e9 : y9 = nI (mk - 1) := e9.trans (by obtain ⟨z, rfl⟩ : ∃ z, mk = z + 1 := ⟨mk - 1, by omega⟩; exact nI_pred z)
    subst e9
    refine wn_iald (j := (mk - 1)) hx hb hK hP (by omega) hE1 (by omega) (by decide) dX1_canFollow_18 ?_
    refine lv_icmp_le (tgt := 41) hx hb dX1_canFollow_19 (by decide) (fun c19 => ?_) (fun c19 => ?_)
    · refine lv_iconst (v := 0) hx hb dX1_canFollow_41 (by decide) ?_
      have h9 : (0 : Int32) = bI (decide (mk = 0) || (decide (ow (mk - 1) < a) && decide (re (mk - 1) ≤ b))) := by first | (rw [show decide (mk = 0) = true from by simpa using n4]; rfl) | (rw [show decide (mk = 0) = false from by simpa using n4, show decide (ow (mk - 1) < a) = false from by simpa using c19]; rfl) | (rw [show decide (mk = 0) = false from by simpa using n4, show decide (ow (mk - 1) < a) = true from by simpa using c19, show decide (re (mk - 1) ≤ b) = true from by simpa using c34]; rfl) | (rw [show decide (mk = 0) = false from by simpa using n4, show decide (re (mk - 1) ≤ b) = false from by simpa using c34, Bool.and_false]; rfl)
      exact W.zret (v := 0) hx hb hr (by first | rfl | exact bI_nar _) (fun t ht _ => ⟨congrArg (fun z => Outcome.returned (some (Value.int z))) h9, ht⟩) (fun _ h => nomatch h) dX1_canFollow_42
    · refine lv_iload_n hx hb dX1_canFollow_22 rfl (lv_at hl 2 rfl) ?_
      refine lv_aload_n hx hb dX1_canFollow_23 rfl (lv_at hl 0 rfl) ?_
      refine va_get (D := D) (ci := 1) (v := .ref (adr (k + 2))) (C := RX1) (T := TX1) (N := 4) hx hb hG inG_X1 hown hK hP k (wl_at (by omega) hE0) rfl 1 (by decide) (hG _ g_61) (fun _ h9 => h9) rfl dX1_canFollow_24 ?_
      refine lv_aload_n hx hb dX1_canFollow_27 rfl (lv_at hl 0 rfl) ?_
      refine va_get (D := D) (ci := 1) (v := .int (nI mk)) (C := RX1) (T := TX1) (N := 4) hx hb hG inG_X1 hown hK hP k (wl_at (by omega) hE0) rfl 2 (by decide) (hG _ g_62) (fun _ h9 => h9) rfl dX1_canFollow_28 ?_
      refine lv_iconst (v := 1) hx hb dX1_canFollow_31 (by decide) ?_
      refine lv_isub hx hb dX1_canFollow_32 ?_
      refine lv_topi (fun y9 e9 => ?_)
      have e9 : y9 = nI (mk - 1) := e9.trans (by obtain ⟨z, rfl⟩ : ∃ z, mk = z + 1 := ⟨mk - 1, by omega⟩; exact nI_pred z)
      subst e9
      refine wn_iald (j := (mk - 1)) hx hb hK hP (by omega) hE2 (by omega) (by decide) dX1_canFollow_33 ?_
      refine lv_icmp_lt (tgt := 41) hx hb dX1_canFollow_34 (by decide) (fun c34 => ?_) (fun c34 => ?_)
      · refine lv_iconst (v := 0) hx hb dX1_canFollow_41 (by decide) ?_
        have h9 : (0 : Int32) = bI (decide (mk = 0) || (decide (ow (mk - 1) < a) && decide (re (mk - 1) ≤ b))) := by first | (rw [show decide (mk = 0) = true from by simpa using n4]; rfl) | (rw [show decide (mk = 0) = false from by simpa using n4, show decide (ow (mk - 1) < a) = false from by simpa using c19]; rfl) | (rw [show decide (mk = 0) = false from by simpa using n4, show decide (ow (mk - 1) < a) = true from by simpa using c19, show decide (re (mk - 1) ≤ b) = true from by simpa using c34]; rfl) | (rw [show decide (mk = 0) = false from by simpa using n4, show decide (re (mk - 1) ≤ b) = false from by simpa using c34, Bool.and_false]; rfl)
        exact W.zret (v := 0) hx hb hr (by first | rfl | exact bI_nar _) (fun t ht _ => ⟨congrArg (fun z => Outcome.returned (some (Value.int z))) h9, ht⟩) (fun _ h => nomatch h) dX1_canFollow_42
      · refine lv_iconst (v := 1) hx hb dX1_canFollow_37 (by decide) ?_
        refine lv_goto (tgt := 42) hx hb dX1_canFollow_38 (by decide) ?_
        have h9 : (1 : Int32) = bI (decide (mk = 0) || (decide (ow (mk - 1) < a) && decide (re (mk - 1) ≤ b))) := by first | (rw [show decide (mk = 0) = true from by simpa using n4]; rfl) | (rw [show decide (mk = 0) = false from by simpa using n4, show decide (ow (mk - 1) < a) = false from by simpa using c19]; rfl) | (rw [show decide (mk = 0) = false from by simpa using n4, show decide (ow (mk - 1) < a) = true from by simpa using c19, show decide (re (mk - 1) ≤ b) = true from by simpa using c34]; rfl) | (rw [show decide (mk = 0) = false from by simpa using n4, show decide (re (mk - 1) ≤ b) = false from by simpa using c34, Bool.and_false]; rfl)
        exact W.zret (v := 1) hx hb hr (by first | rfl | exact bI_nar _) (fun t ht _ => ⟨congrArg (fun z => Outcome.returned (some (Value.int z))) h9, ht⟩) (fun _ h => nomatch h) dX1_canFollow_42
