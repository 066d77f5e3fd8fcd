set_option maxHeartbeats 4000000 in
set_option maxRecDepth 100000 in
theorem cX3_needTold_x {l : Launch} {D : va_G} {cA : Nat → ClassId} {adr : Nat → Nat} {n : Nat} {E : Nat → va_E} {sa : Nat → Nat} {lo : Nat} (hls : l.stackTraces = false)  (x : Int64) : vx_Met l yX3_needTold (.code yX3_needTold cX3_needTold 2 none :: lw_G) ({ frames := 7, cells := 2, slots := 12, locals := 102 } : Room) (va_Pc [.long x] (wdX D (kty cA) sa lo adr n E)) (qR none (tOK x = true)) (xT (fun X => X = nIAE ∧ tOK x = false)) 2 12 (fun _ => False) := by
  refine vx_ofW (cc := cX3_needTold) (maxL := 2) (ret := none) (by decide) rfl ?_
  intro p e s m args below meth c s₁ B hml hno hv
  obtain ⟨rfl, hP, hN, hX⟩ := hv
  have hx := B.exec
  have hb := B.bytes
  have hr := B.returns
  have hG : ∀ w ∈ lw_G, w.before _ s = true := fun w h => atoms_spec (ws := _ :: lw_G) B.pre w (List.mem_cons_of_mem _ h)
  have hown : s.vm.findClass RX3 = some m.cls := findClass_of_methodNamed B.named
  have hlocks := B.notSynchronized
  have hK := hN.1
  have hl := lv_entry ([.long x]) (n := 2) (Nat.le_of_ble_eq_true rfl)
  rw [lg_entry_eq]
  generalize (lg_sl ([.long x]) ++ List.replicate (2 - (lg_sl ([.long x])).length) Slot.unset).toArray = ls at hl ⊢
  have hl : lv_has ls 2 [(0, .long x)] := hl
  refine lv_lload_n hx hb dX3_needTold_0 rfl (lv_at hl 0 rfl) ?_
  refine lv_bipush (v := 30) hx hb dX3_needTold_1 (by decide) ?_
  refine lv_lushr (v := (x.toUInt64 >>> ((30 : Int32).toInt64.toUInt64 &&& Int64.toUInt64 63)).toInt64) hx hb dX3_needTold_3 rfl ?_
  refine lv_lconst (v := 0) hx hb dX3_needTold_4 (by decide) ?_
  refine W.lcmp hx hb dX3_needTold_5 ?_
  refine lv_if_eq (tgt := 19) hx hb dX3_needTold_6 (by decide) (fun c6 => ?_) (fun c6 => ?_)
  · have n6 : tN x < 2 ^ 30 := (cr_shr x _ 30 (by decide)).mp ((lg_cmp_eq _ _).mp c6)
    refine lv_lload_n hx hb dX3_needTold_19 rfl (lv_at hl 0 rfl) ?_
    refine lv_l2i (v := x.toInt32) hx hb dX3_needTold_20 rfl ?_
    refine lv_topi (fun y9 e9 => ?_)
    have e9 : y9 = nI (tN x) := e9.trans (tN_i x)
    subst e9
    refine wn_rS (rest := []) hx hb hml hown hG (cX3_timeIn_r _) (cwS 1 hG (gS g_274 g_275 g_1 g_276) rfl rfl rfl (by decide +kernel) ⟨Nat.le_of_ble_eq_true rfl, Nat.le_of_ble_eq_true rfl⟩) rfl hl.1 rfl (Nat.le_of_ble_eq_true rfl) dX3_needTold_21 ⟨Nat.le_of_ble_eq_true rfl, Nat.le_of_ble_eq_true rfl⟩ ?_
    refine lv_topi (fun y9 e9 => ?_)
    have e9 : y9 = nI (tN x % 2 ^ 20) := e9.trans (pk_andN (by omega) 20 (by decide))
    subst e9
    refine wx_S (rest := []) hx hb hml hown hG hN hX hP (cX3_needTime_x hls _) (cwS 1 hG (gS g_210 g_211 g_1 g_212) rfl rfl rfl (by decide +kernel) ⟨(Nat.le_of_ble_eq_true rfl), (Nat.le_of_ble_eq_true rfl)⟩) rfl hl.1 rfl (Nat.le_of_ble_eq_true rfl) dX3_needTold_24 ⟨(Nat.le_of_ble_eq_true rfl), (Nat.le_of_ble_eq_true rfl)⟩ hno hlocks (Nat.le_of_ble_eq_true rfl) (Nat.le_of_ble_eq_true rfl) (fun X h => ⟨h.1, by unfold tOK; rw [decide_eq_false ((inN_natf (by omega) (by decide)).mp h.2), Bool.and_false]; rfl⟩) (fun hC => ?_)
    have hC := (inN_nat (by omega) (by decide)).mp hC
    refine lv_lload_n hx hb dX3_needTold_27 rfl (lv_at hl 0 rfl) ?_
    refine lv_l2i (v := x.toInt32) hx hb dX3_needTold_28 rfl ?_
    refine lv_topi (fun y9 e9 => ?_)
    have e9 : y9 = nI (tN x) := e9.trans (tN_i x)
    subst e9
    refine wn_rS (rest := []) hx hb hml hown hG (cX3_numberIn_r _) (cwS 1 hG (gS g_280 g_281 g_1 g_282) rfl rfl rfl (by decide +kernel) ⟨Nat.le_of_ble_eq_true rfl, Nat.le_of_ble_eq_true rfl⟩) rfl hl.1 rfl (Nat.le_of_ble_eq_true rfl) dX3_needTold_29 ⟨Nat.le_of_ble_eq_true rfl, Nat.le_of_ble_eq_true rfl⟩ ?_
    refine lv_topi (fun y9 e9 => ?_)
    have e9 : y9 = nI (tN x / 2 ^ 23 % 128) := e9.trans (by rw [pk_shrN (by omega) _ 23 (by decide), pk_andN (by omega) 7 (by decide)])
    subst e9
    refine lv_bipush (v := 100) hx hb dX3_needTold_32 (by decide) ?_
    refine lv_icmp_lt (tgt := 47) hx hb dX3_needTold_34 (by decide) (fun c34 => ?_) (fun c34 => ?_)
    · have n34 : (tN x / 2 ^ 23 % 128) < 100 := (nI_ltI (a := (tN x / 2 ^ 23 % 128)) (b := 100) (by omega) (by omega)).mp c34
      refine W.widen (k := 2) (n := 12) (Nat.le_of_ble_eq_true rfl) (Nat.le_of_ble_eq_true rfl) ?_
      exact vx_ret (W.vret hx hb hr (fun t ht _ => ⟨rfl, by unfold tOK; rw [decide_eq_true n6, decide_eq_true hC, decide_eq_true n34]; rfl, ht⟩) (fun _ h => nomatch h) dX3_needTold_47)
    · have n34 : ¬ (tN x / 2 ^ 23 % 128) < 100 := fun h => c34 ((nI_ltI (a := (tN x / 2 ^ 23 % 128)) (b := 100) (by omega) (by omega)).mpr h)
      exact th_IAE hx hb hls hown hG hN hX (hl.1.trans hml.symm) 6 rfl dX3_needTold_37 dX3_needTold_40 dX3_needTold_41 dX3_needTold_43 dX3_needTold_46 hno (Nat.le_of_ble_eq_true rfl) (Nat.le_of_ble_eq_true rfl) (Nat.le_of_ble_eq_true rfl) (Nat.le_of_ble_eq_true rfl) hlocks ⟨rfl, by unfold tOK; rw [decide_eq_false n34, Bool.and_false]⟩ (Nat.le_of_ble_eq_true rfl) (Nat.le_of_ble_eq_true rfl)
  · exact th_IAE hx hb hls hown hG hN hX (hl.1.trans hml.symm) 5 rfl dX3_needTold_9 dX3_needTold_12 dX3_needTold_13 dX3_needTold_15 dX3_needTold_18 hno (Nat.le_of_ble_eq_true rfl) (Nat.le_of_ble_eq_true rfl) (Nat.le_of_ble_eq_true rfl) (Nat.le_of_ble_eq_true rfl) hlocks ⟨rfl, by unfold tOK; rw [decide_eq_false (show ¬ tN x < 2 ^ 30 from fun h => c6 ((lg_cmp_eq _ _).mpr ((cr_shr x _ 30 (by decide)).mpr h)))]; rfl⟩ (Nat.le_of_ble_eq_true rfl) (Nat.le_of_ble_eq_true rfl)

set_option maxHeartbeats 4000000 in
set_option maxRecDepth 100000 in
theorem cX3_needName_x {l : Launch} {D : va_G} {cA : Nat → ClassId} {adr : Nat → Nat} {n : Nat} {E : Nat → va_E} {sa : Nat → Nat} {lo : Nat} (hls : l.stackTraces = false)  (x : Int32) : vx_Met l yX3_needName (.code yX3_needName cX3_needName 1 none :: lw_G) ({ frames := 7, cells := 2, slots := 12, locals := 102 } : Room) (va_Pc [.int x] (wdX D (kty cA) sa lo adr n E)) (qR none (nOK x = true)) (xT (fun X => X = nIOB ∧ nOK x = false)) 2 12 (fun _ => False) := by
  refine vx_ofW (cc := cX3_needName) (maxL := 1) (ret := none) (by decide) rfl ?_
  intro p e s m args below meth c s₁ B hml hno hv
  obtain ⟨rfl, hP, hN, hX⟩ := hv
  have hx := B.exec
  have hb := B.bytes
  have hr := B.returns
  have hG : ∀ w ∈ lw_G, w.before _ s = true := fun w h => atoms_spec (ws := _ :: lw_G) B.pre w (List.mem_cons_of_mem _ h)
  have hown : s.vm.findClass RX3 = some m.cls := findClass_of_methodNamed B.named
  have hlocks := B.notSynchronized
  have hK := hN.1
  have hl := lv_entry ([.int x]) (n := 1) (Nat.le_of_ble_eq_true rfl)
  rw [lg_entry_eq]
  generalize (lg_sl ([.int x]) ++ List.replicate (1 - (lg_sl ([.int x])).length) Slot.unset).toArray = ls at hl ⊢
  have hl : lv_has ls 1 [(0, .int x)] := hl
  refine lv_iload_n hx hb dX3_needName_0 rfl (lv_at hl 0 rfl) ?_
  refine lv_bipush (v := 9) hx hb dX3_needName_1 (by decide) ?_
  refine lv_ishr hx hb dX3_needName_3 ?_
  refine wx_S (rest := []) hx hb hml hown hG hN hX hP (cX3_needTeller_x hls _) (cwS 1 hG (gS g_122 g_123 g_1 g_124) rfl rfl rfl (by decide +kernel) ⟨(Nat.le_of_ble_eq_true rfl), (Nat.le_of_ble_eq_true rfl)⟩) rfl hl.1 rfl (Nat.le_of_ble_eq_true rfl) dX3_needName_4 ⟨(Nat.le_of_ble_eq_true rfl), (Nat.le_of_ble_eq_true rfl)⟩ hno hlocks (Nat.le_of_ble_eq_true rfl) (Nat.le_of_ble_eq_true rfl) (fun X h => ⟨h.1, by unfold nOK; rw [← inN_shr, h.2]; rfl⟩) (fun hC => ?_)
  rw [inN_shr] at hC
  obtain ⟨a, ha, rfl⟩ := inN_of hC (by decide)
  refine lv_iload_n hx hb dX3_needName_7 rfl (lv_at hl 0 rfl) ?_
  refine lv_bipush (v := 7) hx hb dX3_needName_8 (by decide) ?_
  refine wn_rS (rest := []) hx hb hml hown hG (cX3_lowBits_r _ _) (cwS 2 hG (gS g_277 g_278 g_1 g_279) rfl rfl rfl (by decide +kernel) ⟨Nat.le_of_ble_eq_true rfl, Nat.le_of_ble_eq_true rfl⟩) rfl hl.1 rfl (Nat.le_of_ble_eq_true rfl) dX3_needName_10 ⟨Nat.le_of_ble_eq_true rfl, Nat.le_of_ble_eq_true rfl⟩ ?_
  refine lv_topi (fun y9 e9 => ?_)
  have e9 : y9 = nI (a % 128) := e9.trans (by rw [show ((1 : Int32) <<< ((7 : Int32) &&& 31)) - 1 = 127 from by decide, pk_andN (by omega) 7 (by decide)])
  subst e9
  refine lv_bipush (v := 100) hx hb dX3_needName_13 (by decide) ?_
  refine lv_icmp_lt (tgt := 28) hx hb dX3_needName_15 (by decide) (fun c15 => ?_) (fun c15 => ?_)
  · have n15 : (a % 128) < 100 := (nI_ltI (a := (a % 128)) (b := 100) (by omega) (by omega)).mp c15
    refine W.widen (k := 2) (n := 12) (Nat.le_of_ble_eq_true rfl) (Nat.le_of_ble_eq_true rfl) ?_
    exact vx_ret (W.vret hx hb hr (fun t ht _ => ⟨rfl, by unfold nOK; rw [hC, nI_clamp (by omega), decide_eq_true n15]; rfl, ht⟩) (fun _ h => nomatch h) dX3_needName_28)
  · have n15 : ¬ (a % 128) < 100 := fun h => c15 ((nI_ltI (a := (a % 128)) (b := 100) (by omega) (by omega)).mpr h)
    exact th_IOB hx hb hls hown hG hN hX (hl.1.trans hml.symm) 6 rfl dX3_needName_18 dX3_needName_21 dX3_needName_22 dX3_needName_24 dX3_needName_27 hno (Nat.le_of_ble_eq_true rfl) (Nat.le_of_ble_eq_true rfl) (Nat.le_of_ble_eq_true rfl) (Nat.le_of_ble_eq_true rfl) hlocks ⟨rfl, by unfold nOK; rw [nI_clamp (by omega), decide_eq_false n15, Bool.and_false]⟩ (Nat.le_of_ble_eq_true rfl) (Nat.le_of_ble_eq_true rfl)
