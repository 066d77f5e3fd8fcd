theorem inN_le {x : Int32} {n : Nat} (hn : n + 1 < 2 ^ 31) (h : ¬ x < 0) : inN x (n + 1) = true ↔ x ≤ nI n := by
  unfold inN
  rw [decide_eq_true (Int32.not_lt.mp h), Bool.true_and, decide_eq_true_eq, Int32.le_iff_toInt_le, nI_toInt (by omega)]
  omega

set_option maxHeartbeats 4000000 in
set_option maxRecDepth 100000 in
theorem cX3_needTeller_x {l : Launch} {D : va_G} {cA : Nat → ClassId} {adr : Nat → Nat} {n : Nat} {E : Nat → va_E} {sa : Nat → Nat} {lo : Nat} (hls : l.stackTraces = false)  (x : Int32) : vx_Met l yX3_needTeller (.code yX3_needTeller cX3_needTeller 1 none :: lw_G) ({ frames := 6, cells := 1, slots := 6, locals := 82 } : Room) (va_Pc [.int x] (wdX D (kty cA) sa lo adr n E)) (qR none (inN x 5 = true)) (xT (fun X => X = nIOB ∧ inN x 5 = false)) 1 6 (fun _ => False) := by
  refine vx_ofW (cc := cX3_needTeller) (maxL := 1) (ret := none) (by decide) rfl ?_
  intro p e s m args below meth c s₁ B hml hno hv
  obtain ⟨rfl, hP, hN, hX⟩ := hv
  have hx := B.exec
  have hb := B.bytes
  have hr := B.returns
  have hG : ∀ w ∈ lw_G, w.before _ s = true := fun w h => atoms_spec (ws := _ :: lw_G) B.pre w (List.mem_cons_of_mem _ h)
  have hown : s.vm.findClass RX3 = some m.cls := findClass_of_methodNamed B.named
  have hlocks := B.notSynchronized
  have hK := hN.1
  have hl := lv_entry ([.int x]) (n := 1) (Nat.le_of_ble_eq_true rfl)
  rw [lg_entry_eq]
  generalize (lg_sl ([.int x]) ++ List.replicate (1 - (lg_sl ([.int x])).length) Slot.unset).toArray = ls at hl ⊢
  have hl : lv_has ls 1 [(0, .int x)] := hl
  refine lv_iload_n hx hb dX3_needTeller_0 rfl (lv_at hl 0 rfl) ?_
  refine lv_if_lt (tgt := 9) hx hb dX3_needTeller_1 (by decide) (fun c1 => ?_) (fun c1 => ?_)
  · exact th_IOB hx hb hls hown hG hN hX (hl.1.trans hml.symm) 0 rfl dX3_needTeller_9 dX3_needTeller_12 dX3_needTeller_13 dX3_needTeller_15 dX3_needTeller_18 hno (Nat.le_of_ble_eq_true rfl) (Nat.le_of_ble_eq_true rfl) (Nat.le_of_ble_eq_true rfl) (Nat.le_of_ble_eq_true rfl) hlocks ⟨rfl, (by first | exact inN_neg c1 | exact Bool.eq_false_iff.mpr (fun h => c6 ((inN_lt (n := 5) (by decide) c1).mp h)))⟩ (Nat.le_of_ble_eq_true rfl) (Nat.le_of_ble_eq_true rfl)
  · refine lv_iload_n hx hb dX3_needTeller_4 rfl (lv_at hl 0 rfl) ?_
    refine lv_iconst (v := 5) hx hb dX3_needTeller_5 (by decide) ?_
    refine lv_icmp_lt (tgt := 19) hx hb dX3_needTeller_6 (by decide) (fun c6 => ?_) (fun c6 => ?_)
    · refine W.widen (k := 1) (n := 6) (Nat.le_of_ble_eq_true rfl) (Nat.le_of_ble_eq_true rfl) ?_
      exact vx_ret (W.vret hx hb hr (fun t ht _ => ⟨rfl, (inN_lt (n := 5) (by decide) c1).mpr c6, ht⟩) (fun _ h => nomatch h) dX3_needTeller_19)
    · exact th_IOB hx hb hls hown hG hN hX (hl.1.trans hml.symm) 0 rfl dX3_needTeller_9 dX3_needTeller_12 dX3_needTeller_13 dX3_needTeller_15 dX3_needTeller_18 hno (Nat.le_of_ble_eq_true rfl) (Nat.le_of_ble_eq_true rfl) (Nat.le_of_ble_eq_true rfl) (Nat.le_of_ble_eq_true rfl) hlocks ⟨rfl, (by first | exact inN_neg c1 | exact Bool.eq_false_iff.mpr (fun h => c6 ((inN_lt (n := 5) (by decide) c1).mp h)))⟩ (Nat.le_of_ble_eq_true rfl) (Nat.le_of_ble_eq_true rfl)

set_option maxHeartbeats 4000000 in
set_option maxRecDepth 100000 in
theorem cX3_needDesk_x {l : Launch} {D : va_G} {cA : Nat → ClassId} {adr : Nat → Nat} {n : Nat} {E : Nat → va_E} {sa : Nat → Nat} {lo : Nat} (hls : l.stackTraces = false)  (x : Int32) : vx_Met l yX3_needDesk (.code yX3_needDesk cX3_needDesk 1 none :: lw_G) ({ frames := 6, cells := 1, slots := 6, locals := 82 } : Room) (va_Pc [.int x] (wdX D (kty cA) sa lo adr n E)) (qR none (inN x 3 = true)) (xT (fun X => X = nIOB ∧ inN x 3 = false)) 1 6 (fun _ => False) := by
  refine vx_ofW (cc := cX3_needDesk) (maxL := 1) (ret := none) (by decide) rfl ?_
  intro p e s m args below meth c s₁ B hml hno hv
  obtain ⟨rfl, hP, hN, hX⟩ := hv
  have hx := B.exec
  have hb := B.bytes
  have hr := B.returns
  have hG : ∀ w ∈ lw_G, w.before _ s = true := fun w h => atoms_spec (ws := _ :: lw_G) B.pre w (List.mem_cons_of_mem _ h)
  have hown : s.vm.findClass RX3 = some m.cls := findClass_of_methodNamed B.named
  have hlocks := B.notSynchronized
  have hK := hN.1
  have hl := lv_entry ([.int x]) (n := 1) (Nat.le_of_ble_eq_true rfl)
  rw [lg_entry_eq]
  generalize (lg_sl ([.int x]) ++ List.replicate (1 - (lg_sl ([.int x])).length) Slot.unset).toArray = ls at hl ⊢
  have hl : lv_has ls 1 [(0, .int x)] := hl
  refine lv_iload_n hx hb dX3_needDesk_0 rfl (lv_at hl 0 rfl) ?_
  refine lv_if_lt (tgt := 9) hx hb dX3_needDesk_1 (by decide) (fun c1 => ?_) (fun c1 => ?_)
  · exact th_IOB hx hb hls hown hG hN hX (hl.1.trans hml.symm) 4 rfl dX3_needDesk_9 dX3_needDesk_12 dX3_needDesk_13 dX3_needDesk_15 dX3_needDesk_18 hno (Nat.le_of_ble_eq_true rfl) (Nat.le_of_ble_eq_true rfl) (Nat.le_of_ble_eq_true rfl) (Nat.le_of_ble_eq_true rfl) hlocks ⟨rfl, (by first | exact inN_neg c1 | exact Bool.eq_false_iff.mpr (fun h => c6 ((inN_lt (n := 3) (by decide) c1).mp h)))⟩ (Nat.le_of_ble_eq_true rfl) (Nat.le_of_ble_eq_true rfl)
  · refine lv_iload_n hx hb dX3_needDesk_4 rfl (lv_at hl 0 rfl) ?_
    refine lv_iconst (v := 3) hx hb dX3_needDesk_5 (by decide) ?_
    refine lv_icmp_lt (tgt := 19) hx hb dX3_needDesk_6 (by decide) (fun c6 => ?_) (fun c6 => ?_)
    · refine W.widen (k := 1) (n := 6) (Nat.le_of_ble_eq_true rfl) (Nat.le_of_ble_eq_true rfl) ?_
      exact vx_ret (W.vret hx hb hr (fun t ht _ => ⟨rfl, (inN_lt (n := 3) (by decide) c1).mpr c6, ht⟩) (fun _ h => nomatch h) dX3_needDesk_19)
    · exact th_IOB hx hb hls hown hG hN hX (hl.1.trans hml.symm) 4 rfl dX3_needDesk_9 dX3_needDesk_12 dX3_needDesk_13 dX3_needDesk_15 dX3_needDesk_18 hno (Nat.le_of_ble_eq_true rfl) (Nat.le_of_ble_eq_true rfl) (Nat.le_of_ble_eq_true rfl) (Nat.le_of_ble_eq_true rfl) hlocks ⟨rfl, (by first | exact inN_neg c1 | exact Bool.eq_false_iff.mpr (fun h => c6 ((inN_lt (n := 3) (by decide) c1).mp h)))⟩ (Nat.le_of_ble_eq_true rfl) (Nat.le_of_ble_eq_true rfl)

set_option maxHeartbeats 4000000 in
set_option maxRecDepth 100000 in
theorem cX3_needKey_x {l : Launch} {D : va_G} {cA : Nat → ClassId} {adr : Nat → Nat} {n : Nat} {E : Nat → va_E} {sa : Nat → Nat} {lo : Nat} (hls : l.stackTraces = false)  (x : Int32) : vx_Met l yX3_needKey (.code yX3_needKey cX3_needKey 1 none :: lw_G) ({ frames := 6, cells := 1, slots := 6, locals := 82 } : Room) (va_Pc [.int x] (wdX D (kty cA) sa lo adr n E)) (qR none (inN x 8 = true)) (xT (fun X => X = nIOB ∧ inN x 8 = false)) 1 6 (fun _ => False) := by
  refine vx_ofW (cc := cX3_needKey) (maxL := 1) (ret := none) (by decide) rfl ?_
  intro p e s m args below meth c s₁ B hml hno hv
  obtain ⟨rfl, hP, hN, hX⟩ := hv
  have hx := B.exec
  have hb := B.bytes
  have hr := B.returns
  have hG : ∀ w ∈ lw_G, w.before _ s = true := fun w h => atoms_spec (ws := _ :: lw_G) B.pre w (List.mem_cons_of_mem _ h)
  have hown : s.vm.findClass RX3 = some m.cls := findClass_of_methodNamed B.named
  have hlocks := B.notSynchronized
  have hK := hN.1
  have hl := lv_entry ([.int x]) (n := 1) (Nat.le_of_ble_eq_true rfl)
  rw [lg_entry_eq]
  generalize (lg_sl ([.int x]) ++ List.replicate (1 - (lg_sl ([.int x])).length) Slot.unset).toArray = ls at hl ⊢
  have hl : lv_has ls 1 [(0, .int x)] := hl
  refine lv_iload_n hx hb dX3_needKey_0 rfl (lv_at hl 0 rfl) ?_
  refine lv_if_lt (tgt := 10) hx hb dX3_needKey_1 (by decide) (fun c1 => ?_) (fun c1 => ?_)
  · exact th_IOB hx hb hls hown hG hN hX (hl.1.trans hml.symm) 13 rfl dX3_needKey_10 dX3_needKey_13 dX3_needKey_14 dX3_needKey_16 dX3_needKey_19 hno (Nat.le_of_ble_eq_true rfl) (Nat.le_of_ble_eq_true rfl) (Nat.le_of_ble_eq_true rfl) (Nat.le_of_ble_eq_true rfl) hlocks ⟨rfl, (by first | exact inN_neg c1 | exact Bool.eq_false_iff.mpr (fun h => c7 ((inN_lt (n := 8) (by decide) c1).mp h)))⟩ (Nat.le_of_ble_eq_true rfl) (Nat.le_of_ble_eq_true rfl)
  · refine lv_iload_n hx hb dX3_needKey_4 rfl (lv_at hl 0 rfl) ?_
    refine lv_bipush (v := 8) hx hb dX3_needKey_5 (by decide) ?_
    refine lv_icmp_lt (tgt := 20) hx hb dX3_needKey_7 (by decide) (fun c7 => ?_) (fun c7 => ?_)
    · refine W.widen (k := 1) (n := 6) (Nat.le_of_ble_eq_true rfl) (Nat.le_of_ble_eq_true rfl) ?_
      exact vx_ret (W.vret hx hb hr (fun t ht _ => ⟨rfl, (inN_lt (n := 8) (by decide) c1).mpr c7, ht⟩) (fun _ h => nomatch h) dX3_needKey_20)
    · exact th_IOB hx hb hls hown hG hN hX (hl.1.trans hml.symm) 13 rfl dX3_needKey_10 dX3_needKey_13 dX3_needKey_14 dX3_needKey_16 dX3_needKey_19 hno (Nat.le_of_ble_eq_true rfl) (Nat.le_of_ble_eq_true rfl) (Nat.le_of_ble_eq_true rfl) (Nat.le_of_ble_eq_true rfl) hlocks ⟨rfl, (by first | exact inN_neg c1 | exact Bool.eq_false_iff.mpr (fun h => c7 ((inN_lt (n := 8) (by decide) c1).mp h)))⟩ (Nat.le_of_ble_eq_true rfl) (Nat.le_of_ble_eq_true rfl)

set_option maxHeartbeats 4000000 in
set_option maxRecDepth 100000 in
theorem cX3_needTime_x {l : Launch} {D : va_G} {cA : Nat → ClassId} {adr : Nat → Nat} {n : Nat} {E : Nat → va_E} {sa : Nat → Nat} {lo : Nat} (hls : l.stackTraces = false)  (x : Int32) : vx_Met l yX3_needTime (.code yX3_needTime cX3_needTime 1 none :: lw_G) ({ frames := 6, cells := 1, slots := 6, locals := 82 } : Room) (va_Pc [.int x] (wdX D (kty cA) sa lo adr n E)) (qR none (inN x 1000001 = true)) (xT (fun X => X = nIAE ∧ inN x 1000001 = false)) 1 6 (fun _ => False) := by
  refine vx_ofW (cc := cX3_needTime) (maxL := 1) (ret := none) (by decide) rfl ?_
  intro p e s m args below meth c s₁ B hml hno hv
  obtain ⟨rfl, hP, hN, hX⟩ := hv
  have hx := B.exec
  have hb := B.bytes
  have hr := B.returns
  have hG : ∀ w ∈ lw_G, w.before _ s = true := fun w h => atoms_spec (ws := _ :: lw_G) B.pre w (List.mem_cons_of_mem _ h)
  have hown : s.vm.findClass RX3 = some m.cls := findClass_of_methodNamed B.named
  have hlocks := B.notSynchronized
  have hK := hN.1
  have hl := lv_entry ([.int x]) (n := 1) (Nat.le_of_ble_eq_true rfl)
  rw [lg_entry_eq]
  generalize (lg_sl ([.int x]) ++ List.replicate (1 - (lg_sl ([.int x])).length) Slot.unset).toArray = ls at hl ⊢
  have hl : lv_has ls 1 [(0, .int x)] := hl
  refine lv_iload_n hx hb dX3_needTime_0 rfl (lv_at hl 0 rfl) ?_
  refine lv_if_lt (tgt := 10) hx hb dX3_needTime_1 (by decide) (fun c1 => ?_) (fun c1 => ?_)
  · exact th_IAE hx hb hls hown hG hN hX (hl.1.trans hml.symm) 2 rfl dX3_needTime_10 dX3_needTime_13 dX3_needTime_14 dX3_needTime_16 dX3_needTime_19 hno (Nat.le_of_ble_eq_true rfl) (Nat.le_of_ble_eq_true rfl) (Nat.le_of_ble_eq_true rfl) (Nat.le_of_ble_eq_true rfl) hlocks ⟨rfl, (by first | exact inN_neg c1 | exact Bool.eq_false_iff.mpr (fun h => c7 ((inN_le (n := 1000000) (by decide) c1).mp h)))⟩ (Nat.le_of_ble_eq_true rfl) (Nat.le_of_ble_eq_true rfl)
  · refine lv_iload_n hx hb dX3_needTime_4 rfl (lv_at hl 0 rfl) ?_
    refine lv_ldc hx hb hown (hG _ g_213) dX3_needTime_5 ?_
    refine lv_icmp_le (tgt := 20) hx hb dX3_needTime_7 (by decide) (fun c7 => ?_) (fun c7 => ?_)
    · refine W.widen (k := 1) (n := 6) (Nat.le_of_ble_eq_true rfl) (Nat.le_of_ble_eq_true rfl) ?_
      exact vx_ret (W.vret hx hb hr (fun t ht _ => ⟨rfl, (inN_le (n := 1000000) (by decide) c1).mpr c7, ht⟩) (fun _ h => nomatch h) dX3_needTime_20)
    · exact th_IAE hx hb hls hown hG hN hX (hl.1.trans hml.symm) 2 rfl dX3_needTime_10 dX3_needTime_13 dX3_needTime_14 dX3_needTime_16 dX3_needTime_19 hno (Nat.le_of_ble_eq_true rfl) (Nat.le_of_ble_eq_true rfl) (Nat.le_of_ble_eq_true rfl) (Nat.le_of_ble_eq_true rfl) hlocks ⟨rfl, (by first | exact inN_neg c1 | exact Bool.eq_false_iff.mpr (fun h => c7 ((inN_le (n := 1000000) (by decide) c1).mp h)))⟩ (Nat.le_of_ble_eq_true rfl) (Nat.le_of_ble_eq_true rfl)
