theorem bI_inj {a b : Bool} (h : bI a = bI b) : a = b := by cases a <;> cases b <;> first | rfl | exact absurd h (by decide)
set_option maxHeartbeats 4000000 in
set_option maxRecDepth 100000 in
theorem cX3_real_x {l : Launch} {D : va_G} {cA : Nat → ClassId} {adr : Nat → Nat} {n : Nat} {E : Nat → va_E} {sa : Nat → Nat} {lo : Nat} (hls : l.stackTraces = false)  {S : CS} (hn : 30 ≤ n) (hR : Rep cA adr S E) (tt x : Int32) : vx_Met l yX3_real (.code yX3_real cX3_real 3 (some .int) :: lw_G) ({ frames := 7, cells := 2, slots := 12, locals := 102 } : Room) (va_Pc [.ref (adr 0), .int tt, .int x] (wdX D (kty cA) sa lo adr n E)) (qR (some (.int (r_real S tt x))) (k_real S tt x = 0)) (xT (fun X => (k_real S tt x = 1 ∧ X = nIOB) ∨ (k_real S tt x = 2 ∧ X = nIAE))) 2 12 (fun _ => False) := by
  refine vx_ofW (cc := cX3_real) (maxL := 3) (ret := (some .int)) (by decide) rfl ?_
  intro p e s m args below meth c s₁ B hml hno hv
  obtain ⟨rfl, hP, hN, hX⟩ := hv
  have hx := B.exec
  have hb := B.bytes
  have hr := B.returns
  have hG : ∀ w ∈ lw_G, w.before _ s = true := fun w h => atoms_spec (ws := _ :: lw_G) B.pre w (List.mem_cons_of_mem _ h)
  have hown : s.vm.findClass RX3 = some m.cls := findClass_of_methodNamed B.named
  have hlocks := B.notSynchronized
  have hK := hN.1
  have hl := lv_entry ([.ref (adr 0), .int tt, .int x]) (n := 3) (Nat.le_of_ble_eq_true rfl)
  rw [lg_entry_eq]
  generalize (lg_sl ([.ref (adr 0), .int tt, .int x]) ++ List.replicate (3 - (lg_sl ([.ref (adr 0), .int tt, .int x])).length) Slot.unset).toArray = ls at hl ⊢
  have hl : lv_has ls 3 [(0, .ref (adr 0)), (1, .int tt), (2, .int x)] := hl
  obtain ⟨hE0, hE1, hE2, hK0, hK1, hK2, hK3, hK4, ⟨hdv, hE8⟩, hDk, hTl, hct, hnm, htd, hmk, hlf⟩ := id hR
  refine lv_iload_n hx hb dX3_real_0 rfl (lv_at hl 1 rfl) ?_
  refine wx_S (rest := []) hx hb hml hown hG hN hX hP (cX3_needTeller_x hls _) (cwS 1 hG (gS g_122 g_123 g_1 g_124) rfl rfl rfl (by decide +kernel) ⟨(Nat.le_of_ble_eq_true rfl), (Nat.le_of_ble_eq_true rfl)⟩) rfl hl.1 rfl (Nat.le_of_ble_eq_true rfl) dX3_real_1 ⟨(Nat.le_of_ble_eq_true rfl), (Nat.le_of_ble_eq_true rfl)⟩ hno hlocks (Nat.le_of_ble_eq_true rfl) (Nat.le_of_ble_eq_true rfl) (fun X h => Or.inl ⟨by unfold k_real; rw [h.2]; rfl, h.1⟩) (fun hC => ?_)
  have hT := hC
  obtain ⟨t, ht, rfl⟩ := inN_of hC (by decide)
  obtain ⟨hT0, hT1, hT2⟩ := hTl t ht
  refine lv_iload_n hx hb dX3_real_4 rfl (lv_at hl 2 rfl) ?_
  refine wx_S (rest := []) hx hb hml hown hG hN hX hP (cX3_needTime_x hls _) (cwS 1 hG (gS g_210 g_211 g_1 g_212) rfl rfl rfl (by decide +kernel) ⟨(Nat.le_of_ble_eq_true rfl), (Nat.le_of_ble_eq_true rfl)⟩) rfl hl.1 rfl (Nat.le_of_ble_eq_true rfl) dX3_real_5 ⟨(Nat.le_of_ble_eq_true rfl), (Nat.le_of_ble_eq_true rfl)⟩ hno hlocks (Nat.le_of_ble_eq_true rfl) (Nat.le_of_ble_eq_true rfl) (fun X h => Or.inr ⟨by unfold k_real; rw [hT, h.2]; rfl, h.1⟩) (fun hC => ?_)
  have hM := hC
  refine lv_aload_n hx hb dX3_real_8 rfl (lv_at hl 0 rfl) ?_
  refine va_get (D := D) (ci := 3) (v := .ref (adr 1)) (C := RX3) (T := TX3) (N := 4) hx hb hG inG_X3 hown hK hP 0 (wl_at (by omega) hE0) rfl 0 (by decide) (hG _ g_99) (fun _ h9 => h9) rfl dX3_real_9 ?_
  refine lv_iload_n hx hb dX3_real_12 rfl (lv_at hl 1 rfl) ?_
  refine wn_ald (j := t) (g := fun j => 15 + 3 * j) hx hb hK hP 2 (by omega) hE1 rfl (by omega) (by decide) dX3_real_13 ?_
  refine lv_iload_n hx hb dX3_real_14 rfl (lv_at hl 2 rfl) ?_
  refine wn_rV (rest := []) hx hb hml hown hG hN hP (cX1_realTime_r (by omega) (hmk _ ht) hT0 hT1 hT2 _) (cwV 1 hG (gV g_246 g_247 g_248 g_3 g_249) rfl rfl rfl (by decide +kernel) ⟨Nat.le_of_ble_eq_true rfl, Nat.le_of_ble_eq_true rfl⟩) (by omega) hT0 rfl rfl hl.1 rfl (Nat.le_of_ble_eq_true rfl) dX3_real_15 ⟨Nat.le_of_ble_eq_true rfl, Nat.le_of_ble_eq_true rfl⟩ ?_
  refine W.widen (k := 2) (n := 12) (Nat.le_of_ble_eq_true rfl) (Nat.le_of_ble_eq_true rfl) ?_
  exact vx_ret (W.iret (v := rt (c_mk S t) (c_ow S t) (c_re S t) x) hx hb hr (fun t ht _ => ⟨congrArg (fun z => Outcome.returned (some (Value.int z))) (by unfold r_real; rw [nI_clamp (by omega)]), by unfold k_real; rw [hT, hM]; rfl, ht⟩) (fun _ h => nomatch h) dX3_real_18)

set_option maxHeartbeats 4000000 in
set_option maxRecDepth 100000 in
theorem cX3_many_x {l : Launch} {D : va_G} {cA : Nat → ClassId} {adr : Nat → Nat} {n : Nat} {E : Nat → va_E} {sa : Nat → Nat} {lo : Nat} (hls : l.stackTraces = false)  {S : CS} (hn : 30 ≤ n) (hR : Rep cA adr S E) (dd ww : Int32) : vx_Met l yX3_many (.code yX3_many cX3_many 4 (some .int) :: lw_G) ({ frames := 7, cells := 2, slots := 12, locals := 102 } : Room) (va_Pc [.ref (adr 0), .int dd, .int ww] (wdX D (kty cA) sa lo adr n E)) (qR (some (.int (r_many S dd ww))) (k_many S dd ww = 0)) (xT (fun X => k_many S dd ww = 1 ∧ X = nIOB)) 2 12 (fun _ => False) := by
  refine vx_ofW (cc := cX3_many) (maxL := 4) (ret := (some .int)) (by decide) rfl ?_
  intro p e s m args below meth c s₁ B hml hno hv
  obtain ⟨rfl, hP, hN, hX⟩ := hv
  have hx := B.exec
  have hb := B.bytes
  have hr := B.returns
  have hG : ∀ w ∈ lw_G, w.before _ s = true := fun w h => atoms_spec (ws := _ :: lw_G) B.pre w (List.mem_cons_of_mem _ h)
  have hown : s.vm.findClass RX3 = some m.cls := findClass_of_methodNamed B.named
  have hlocks := B.notSynchronized
  have hK := hN.1
  have hl := lv_entry ([.ref (adr 0), .int dd, .int ww]) (n := 4) (Nat.le_of_ble_eq_true rfl)
  rw [lg_entry_eq]
  generalize (lg_sl ([.ref (adr 0), .int dd, .int ww]) ++ List.replicate (4 - (lg_sl ([.ref (adr 0), .int dd, .int ww])).length) Slot.unset).toArray = ls at hl ⊢
  have hl : lv_has ls 4 [(0, .ref (adr 0)), (1, .int dd), (2, .int ww)] := hl
  obtain ⟨hE0, hE1, hE2, hK0, hK1, hK2, hK3, hK4, ⟨hdv, hE8⟩, hDk, hTl, hct, hnm, htd, hmk, hlf⟩ := id hR
  refine lv_iload_n hx hb dX3_many_0 rfl (lv_at hl 1 rfl) ?_
  refine wx_S (rest := []) hx hb hml hown hG hN hX hP (cX3_needDesk_x hls _) (cwS 1 hG (gS g_266 g_267 g_1 g_268) rfl rfl rfl (by decide +kernel) ⟨(Nat.le_of_ble_eq_true rfl), (Nat.le_of_ble_eq_true rfl)⟩) rfl hl.1 rfl (Nat.le_of_ble_eq_true rfl) dX3_many_1 ⟨(Nat.le_of_ble_eq_true rfl), (Nat.le_of_ble_eq_true rfl)⟩ hno hlocks (Nat.le_of_ble_eq_true rfl) (Nat.le_of_ble_eq_true rfl) (fun X h => ⟨by unfold k_many; rw [h.2]; rfl, h.1⟩) (fun hC => ?_)
  have hD := hC
  obtain ⟨d, hd, rfl⟩ := inN_of hC (by decide)
  obtain ⟨hD0, hD1⟩ := hDk d hd
  refine lv_iload_n hx hb dX3_many_4 rfl (lv_at hl 2 rfl) ?_
  refine lv_if_lt (tgt := 13) hx hb dX3_many_5 (by decide) (fun c5 => ?_) (fun c5 => ?_)
  · exact th_IOB hx hb hls hown hG hN hX (hl.1.trans hml.symm) 14 rfl dX3_many_13 dX3_many_16 dX3_many_17 dX3_many_19 dX3_many_22 hno (Nat.le_of_ble_eq_true rfl) (Nat.le_of_ble_eq_true rfl) (Nat.le_of_ble_eq_true rfl) (Nat.le_of_ble_eq_true rfl) hlocks ⟨by unfold k_many; rw [(show inN ww 3 = false from by first | exact inN_neg c5 | exact Bool.eq_false_iff.mpr (fun h => c10 ((inN_le (n := 2) (by decide) c5).mp h))), Bool.and_false]; rfl, rfl⟩ (Nat.le_of_ble_eq_true rfl) (Nat.le_of_ble_eq_true rfl)
  · refine lv_iload_n hx hb dX3_many_8 rfl (lv_at hl 2 rfl) ?_
    refine lv_iconst (v := 2) hx hb dX3_many_9 (by decide) ?_
    refine lv_icmp_le (tgt := 23) hx hb dX3_many_10 (by decide) (fun c10 => ?_) (fun c10 => ?_)
    · have hW : inN ww 3 = true := (inN_le (n := 2) (by decide) c5).mpr c10
      refine lv_aload_n hx hb dX3_many_23 rfl (lv_at hl 0 rfl) ?_
      refine va_get (D := D) (ci := 3) (v := .ref (adr 2)) (C := RX3) (T := TX3) (N := 4) hx hb hG inG_X3 hown hK hP 0 (wl_at (by omega) hE0) rfl 1 (by decide) (hG _ g_100) (fun _ h9 => h9) rfl dX3_many_24 ?_
      refine lv_iload_n hx hb dX3_many_27 rfl (lv_at hl 1 rfl) ?_
      refine wn_ald (j := d) (g := fun j => 9 + 2 * j) hx hb hK hP 3 (by omega) hE2 rfl (by omega) (by decide) dX3_many_28 ?_
      refine lv_astore_n (lv' := [(3, .ref (adr (9 + 2 * d))), (0, .ref (adr 0)), (1, .int (nI d)), (2, .int ww)]) hx hb dX3_many_29 rfl hl (by decide) rfl (fun ls hl => ?_)
      refine lv_iload_n hx hb dX3_many_30 rfl (lv_at hl 3 rfl) ?_
      obtain ⟨j, hj, rfl⟩ := inN_of hW (by decide)
      rcases (show j = 0 ∨ j = 1 ∨ j = 2 by omega) with rfl | rfl | rfl
      · refine lv_lookup (off := 25) (tgt := 56) hx hb dX3_many_31 (by decide) (by decide) (by decide) ?_
        refine lv_aload_n hx hb dX3_many_56 rfl (lv_at hl 0 rfl) ?_
        refine va_get (D := D) (ci := 0) (v := .int (c_sn S d)) (C := RX0) (T := TX0) (N := 5) hx hb hG inG_X0 hown hK hP (9 + 2 * d) (wl_at (by omega) hD0) rfl 2 (by decide) (hG _ g_83) (fun _ h9 => h9) rfl dX3_many_57 ?_
        refine W.widen (k := 2) (n := 12) (Nat.le_of_ble_eq_true rfl) (Nat.le_of_ble_eq_true rfl) ?_
        exact vx_ret (W.iret (v := c_sn S d) hx hb hr (fun t ht _ => ⟨congrArg (fun z => Outcome.returned (some (Value.int z))) (by unfold r_many; rw [nI_clamp (by omega)]; rfl), by unfold k_many; rw [hD, hW]; rfl, ht⟩) (fun _ h => nomatch h) dX3_many_60)
      · refine lv_lookup (off := 30) (tgt := 61) hx hb dX3_many_31 (by decide) (by decide) (by decide) ?_
        refine lv_aload_n hx hb dX3_many_61 rfl (lv_at hl 0 rfl) ?_
        refine va_get (D := D) (ci := 0) (v := .int (c_mt S d)) (C := RX0) (T := TX0) (N := 5) hx hb hG inG_X0 hown hK hP (9 + 2 * d) (wl_at (by omega) hD0) rfl 1 (by decide) (hG _ g_81) (fun _ h9 => h9) rfl dX3_many_62 ?_
        refine W.widen (k := 2) (n := 12) (Nat.le_of_ble_eq_true rfl) (Nat.le_of_ble_eq_true rfl) ?_
        exact vx_ret (W.iret (v := c_mt S d) hx hb hr (fun t ht _ => ⟨congrArg (fun z => Outcome.returned (some (Value.int z))) (by unfold r_many; rw [nI_clamp (by omega)]; rfl), by unfold k_many; rw [hD, hW]; rfl, ht⟩) (fun _ h => nomatch h) dX3_many_65)
      · refine lv_lookup (off := 35) (tgt := 66) hx hb dX3_many_31 (by decide) (by decide) (by decide) ?_
        refine lv_aload_n hx hb dX3_many_66 rfl (lv_at hl 0 rfl) ?_
        refine va_get (D := D) (ci := 0) (v := .int (c_wt S d)) (C := RX0) (T := TX0) (N := 5) hx hb hG inG_X0 hown hK hP (9 + 2 * d) (wl_at (by omega) hD0) rfl 3 (by decide) (hG _ g_85) (fun _ h9 => h9) rfl dX3_many_67 ?_
        refine W.widen (k := 2) (n := 12) (Nat.le_of_ble_eq_true rfl) (Nat.le_of_ble_eq_true rfl) ?_
        exact vx_ret (W.iret (v := c_wt S d) hx hb hr (fun t ht _ => ⟨congrArg (fun z => Outcome.returned (some (Value.int z))) (by unfold r_many; rw [nI_clamp (by omega)]; rfl), by unfold k_many; rw [hD, hW]; rfl, ht⟩) (fun _ h => nomatch h) dX3_many_70)
    · exact th_IOB hx hb hls hown hG hN hX (hl.1.trans hml.symm) 14 rfl dX3_many_13 dX3_many_16 dX3_many_17 dX3_many_19 dX3_many_22 hno (Nat.le_of_ble_eq_true rfl) (Nat.le_of_ble_eq_true rfl) (Nat.le_of_ble_eq_true rfl) (Nat.le_of_ble_eq_true rfl) hlocks ⟨by unfold k_many; rw [(show inN ww 3 = false from by first | exact inN_neg c5 | exact Bool.eq_false_iff.mpr (fun h => c10 ((inN_le (n := 2) (by decide) c5).mp h))), Bool.and_false]; rfl, rfl⟩ (Nat.le_of_ble_eq_true rfl) (Nat.le_of_ble_eq_true rfl)

set_option maxHeartbeats 4000000 in
set_option maxRecDepth 100000 in
theorem cX3_same_x {l : Launch} {D : va_G} {cA : Nat → ClassId} {adr : Nat → Nat} {n : Nat} {E : Nat → va_E} {sa : Nat → Nat} {lo : Nat} (hls : l.stackTraces = false)  {S : CS} (hn : 30 ≤ n) (hR : Rep cA adr S E) (dd oo : Int32) : vx_Met l yX3_same (.code yX3_same cX3_same 6 (some .boolean) :: lw_G) ({ frames := 7, cells := 2, slots := 12, locals := 102 } : Room) (va_Pc [.ref (adr 0), .int dd, .int oo] (wdX D (kty cA) sa lo adr n E)) (qR (some (.int (bI (r_same S dd oo)))) (k_same S dd oo = 0)) (xT (fun X => k_same S dd oo = 1 ∧ X = nIOB)) 2 12 (fun _ => False) := by
  refine vx_ofW (cc := cX3_same) (maxL := 6) (ret := (some .boolean)) (by decide) rfl ?_
  intro p e s m args below meth c s₁ B hml hno hv
  obtain ⟨rfl, hP, hN, hX⟩ := hv
  have hx := B.exec
  have hb := B.bytes
  have hr := B.returns
  have hG : ∀ w ∈ lw_G, w.before _ s = true := fun w h => atoms_spec (ws := _ :: lw_G) B.pre w (List.mem_cons_of_mem _ h)
  have hown : s.vm.findClass RX3 = some m.cls := findClass_of_methodNamed B.named
  have hlocks := B.notSynchronized
  have hK := hN.1
  have hl := lv_entry ([.ref (adr 0), .int dd, .int oo]) (n := 6) (Nat.le_of_ble_eq_true rfl)
  rw [lg_entry_eq]
  generalize (lg_sl ([.ref (adr 0), .int dd, .int oo]) ++ List.replicate (6 - (lg_sl ([.ref (adr 0), .int dd, .int oo])).length) Slot.unset).toArray = ls at hl ⊢
  have hl : lv_has ls 6 [(0, .ref (adr 0)), (1, .int dd), (2, .int oo)] := hl
  obtain ⟨hE0, hE1, hE2, hK0, hK1, hK2, hK3, hK4, ⟨hdv, hE8⟩, hDk, hTl, hct, hnm, htd, hmk, hlf⟩ := id hR
  refine lv_iload_n hx hb dX3_same_0 rfl (lv_at hl 1 rfl) ?_
  refine wx_S (rest := []) hx hb hml hown hG hN hX hP (cX3_needDesk_x hls _) (cwS 1 hG (gS g_266 g_267 g_1 g_268) rfl rfl rfl (by decide +kernel) ⟨(Nat.le_of_ble_eq_true rfl), (Nat.le_of_ble_eq_true rfl)⟩) rfl hl.1 rfl (Nat.le_of_ble_eq_true rfl) dX3_same_1 ⟨(Nat.le_of_ble_eq_true rfl), (Nat.le_of_ble_eq_true rfl)⟩ hno hlocks (Nat.le_of_ble_eq_true rfl) (Nat.le_of_ble_eq_true rfl) (fun X h => ⟨by unfold k_same; rw [h.2]; rfl, h.1⟩) (fun hC => ?_)
  have hD := hC
  obtain ⟨d, hd, rfl⟩ := inN_of hC (by decide)
  obtain ⟨hD0, hD1⟩ := hDk d hd
  refine lv_iload_n hx hb dX3_same_4 rfl (lv_at hl 2 rfl) ?_
  refine wx_S (rest := []) hx hb hml hown hG hN hX hP (cX3_needDesk_x hls _) (cwS 1 hG (gS g_266 g_267 g_1 g_268) rfl rfl rfl (by decide +kernel) ⟨(Nat.le_of_ble_eq_true rfl), (Nat.le_of_ble_eq_true rfl)⟩) rfl hl.1 rfl (Nat.le_of_ble_eq_true rfl) dX3_same_5 ⟨(Nat.le_of_ble_eq_true rfl), (Nat.le_of_ble_eq_true rfl)⟩ hno hlocks (Nat.le_of_ble_eq_true rfl) (Nat.le_of_ble_eq_true rfl) (fun X h => ⟨by unfold k_same; rw [h.2, Bool.and_false]; rfl, h.1⟩) (fun hC => ?_)
  have hO := hC
  obtain ⟨o, ho, rfl⟩ := inN_of hC (by decide)
  obtain ⟨hO0, hO1⟩ := hDk o ho
  refine lv_aload_n hx hb dX3_same_8 rfl (lv_at hl 0 rfl) ?_
  refine va_get (D := D) (ci := 3) (v := .ref (adr 2)) (C := RX3) (T := TX3) (N := 4) hx hb hG inG_X3 hown hK hP 0 (wl_at (by omega) hE0) rfl 1 (by decide) (hG _ g_100) (fun _ h9 => h9) rfl dX3_same_9 ?_
  refine lv_iload_n hx hb dX3_same_12 rfl (lv_at hl 1 rfl) ?_
  refine wn_ald (j := d) (g := fun j => 9 + 2 * j) hx hb hK hP 3 (by omega) hE2 rfl (by omega) (by decide) dX3_same_13 ?_
  refine lv_astore_n (lv' := [(3, .ref (adr (9 + 2 * d))), (0, .ref (adr 0)), (1, .int (nI d)), (2, .int (nI o))]) hx hb dX3_same_14 rfl hl (by decide) rfl (fun ls hl => ?_)
  refine lv_aload_n hx hb dX3_same_15 rfl (lv_at hl 1 rfl) ?_
  refine va_get (D := D) (ci := 3) (v := .ref (adr 2)) (C := RX3) (T := TX3) (N := 4) hx hb hG inG_X3 hown hK hP 0 (wl_at (by omega) hE0) rfl 1 (by decide) (hG _ g_100) (fun _ h9 => h9) rfl dX3_same_16 ?_
  refine lv_iload_n hx hb dX3_same_19 rfl (lv_at hl 3 rfl) ?_
  refine wn_ald (j := o) (g := fun j => 9 + 2 * j) hx hb hK hP 3 (by omega) hE2 rfl (by omega) (by decide) dX3_same_20 ?_
  refine lv_astore (lv' := [(4, .ref (adr (9 + 2 * o))), (3, .ref (adr (9 + 2 * d))), (0, .ref (adr 0)), (1, .int (nI d)), (2, .int (nI o))]) hx hb dX3_same_21 hl (by decide) rfl (fun ls hl => ?_)
  refine lv_iconst (v := 0) hx hb dX3_same_23 (by decide) ?_
  refine lv_istore (lv' := [(5, .int 0), (4, .ref (adr (9 + 2 * o))), (3, .ref (adr (9 + 2 * d))), (0, .ref (adr 0)), (1, .int (nI d)), (2, .int (nI o))]) hx hb dX3_same_24 hl (by decide) rfl (fun ls hl => ?_)
  have L26 : ∀ (f : Nat) (i : Nat), c_ct S - i < f → i ≤ c_ct S → alB (fun i => c_see S d i == c_see S o i) i = true → ∀ ls : Array Slot, lv_has ls 6 [(5, .int (nI i)), (0, .ref (adr 0)), (3, .ref (adr (9 + 2 * d))), (4, .ref (adr (9 + 2 * o))), (1, .int (nI d)), (2, .int (nI o))] → W p l e (headSpec (.code yX3_same cX3_same 6 (some .boolean) :: lw_G) ({ frames := 7, cells := 2, slots := 12, locals := 102 } : Room)).room s m [.ref (adr 0), .int (nI d), .int (nI o)].toArray below meth c s.heap [] 2 12 (vx_MQ below (qR (some (.int (bI (r_same S (nI d) (nI o))))) (k_same S (nI d) (nI o) = 0)) (xT (fun X => k_same S (nI d) (nI o) = 1 ∧ X = nIOB)) [.ref (adr 0), .int (nI d), .int (nI o)].toArray s 2 12 (fun _ => False)) (F0 m 26 ls []) := by
    intro f
    induction f with
    | zero => intro i h0; exact absurd h0 (by omega)
    | succ f ih =>
      intro i hf hi hq ls hl
      refine lv_iload hx hb dX3_same_26 (lv_at hl 0 rfl) ?_
      refine lv_aload_n hx hb dX3_same_28 rfl (lv_at hl 1 rfl) ?_
      refine va_get (D := D) (ci := 3) (v := .ref (adr 3)) (C := RX3) (T := TX3) (N := 4) hx hb hG inG_X3 hown hK hP 0 (wl_at (by omega) hE0) rfl 2 (by decide) (hG _ g_101) (fun _ h9 => h9) rfl dX3_same_29 ?_
      refine va_get (D := D) (ci := 2) (v := .int (nI (c_ct S))) (C := RX2) (T := TX2) (N := 5) hx hb hG inG_X2 hown hK hP 3 (wl_at (by omega) hK0) rfl 4 (by decide) (hG _ g_41) (fun _ h9 => h9) rfl dX3_same_32 ?_
      refine lv_icmp_ge (tgt := 62) hx hb dX3_same_35 (by decide) (fun c35 => ?_) (fun c35 => ?_)
      · have n35 : (c_ct S) ≤ i := (nI_leI (a := (c_ct S)) (b := i) (by omega) (by omega)).mp c35
        refine lv_iconst (v := 1) hx hb dX3_same_62 (by decide) ?_
        refine W.widen (k := 2) (n := 12) (Nat.le_of_ble_eq_true rfl) (Nat.le_of_ble_eq_true rfl) ?_
        exact vx_ret (W.zret (v := 1) hx hb hr (by first | rfl | exact bI_nar _) (fun t ht _ => ⟨congrArg (fun z => Outcome.returned (some (Value.int z))) (by rw [show r_same S (nI d) (nI o) = true from by unfold r_same; rw [nI_clamp (by omega), nI_clamp (by omega), show c_ct S = i from by omega]; exact hq]; rfl), by unfold k_same; rw [hD, hO]; rfl, ht⟩) (fun _ h => nomatch h) dX3_same_63)
      · have n35 : ¬ (c_ct S) ≤ i := fun h => c35 ((nI_leI (a := (c_ct S)) (b := i) (by omega) (by omega)).mpr h)
        refine lv_aload_n hx hb dX3_same_38 rfl (lv_at hl 2 rfl) ?_
        refine lv_iload hx hb dX3_same_39 (lv_at hl 0 rfl) ?_
        refine wn_rV (rest := []) hx hb hml hown hG hN hP (cX0_hasSeen_r (by omega) hD0 hD1 (j := i) (by omega)) (cwV 1 hG (gV g_343 g_344 g_345 g_4 g_346) rfl rfl rfl (by decide +kernel) ⟨Nat.le_of_ble_eq_true rfl, Nat.le_of_ble_eq_true rfl⟩) (by omega) hD0 rfl rfl hl.1 rfl (Nat.le_of_ble_eq_true rfl) dX3_same_41 ⟨Nat.le_of_ble_eq_true rfl, Nat.le_of_ble_eq_true rfl⟩ ?_
        refine lv_aload hx hb dX3_same_44 (lv_at hl 3 rfl) ?_
        refine lv_iload hx hb dX3_same_46 (lv_at hl 0 rfl) ?_
        refine wn_rV (rest := [.int (bI (c_see S d i))]) hx hb hml hown hG hN hP (cX0_hasSeen_r (by omega) hO0 hO1 (j := i) (by omega)) (cwV 1 hG (gV g_343 g_344 g_345 g_4 g_346) rfl rfl rfl (by decide +kernel) ⟨Nat.le_of_ble_eq_true rfl, Nat.le_of_ble_eq_true rfl⟩) (by omega) hO0 rfl rfl hl.1 rfl (Nat.le_of_ble_eq_true rfl) dX3_same_48 ⟨Nat.le_of_ble_eq_true rfl, Nat.le_of_ble_eq_true rfl⟩ ?_
        refine lv_icmp_eq (tgt := 56) hx hb dX3_same_51 (by decide) (fun c51 => ?_) (fun c51 => ?_)
        · have e51 : c_see S d i = c_see S o i := bI_inj c51
          refine lv_iinc (v := nI (i + 1)) (lv' := [(5, .int (nI (i + 1))), (0, .ref (adr 0)), (3, .ref (adr (9 + 2 * d))), (4, .ref (adr (9 + 2 * o))), (1, .int (nI d)), (2, .int (nI o))]) hx hb dX3_same_56 hl (k := 0) rfl (nI_1 _) (by decide) rfl (fun ls hl => ?_)
          refine lv_goto (tgt := 26) hx hb dX3_same_59 (by decide) ?_
          exact ih (i + 1) (by omega) (by omega) (by simp only [alB, hq, Bool.true_and]; rw [e51]; simp) ls (lv_sub hl [0, 1, 2, 3, 4, 5] rfl)
        · have e51 : ¬ c_see S d i = c_see S o i := fun h => c51 (congrArg bI h)
          refine lv_iconst (v := 0) hx hb dX3_same_54 (by decide) ?_
          refine W.widen (k := 2) (n := 12) (Nat.le_of_ble_eq_true rfl) (Nat.le_of_ble_eq_true rfl) ?_
          exact vx_ret (W.zret (v := 0) hx hb hr (by first | rfl | exact bI_nar _) (fun t ht _ => ⟨congrArg (fun z => Outcome.returned (some (Value.int z))) (by rw [show r_same S (nI d) (nI o) = false from by unfold r_same; rw [nI_clamp (by omega), nI_clamp (by omega)]; exact alB_miss (P := fun i => c_see S d i == c_see S o i) (i := i) (by simpa using e51) (by omega)]; rfl), by unfold k_same; rw [hD, hO]; rfl, ht⟩) (fun _ h => nomatch h) dX3_same_55)
  exact L26 (c_ct S + 1) 0 (by omega) (by omega) rfl ls (lv_sub hl [0, 3, 2, 1, 4, 5] rfl)

set_option maxHeartbeats 4000000 in
set_option maxRecDepth 100000 in
theorem cX3_conflicts_x {l : Launch} {D : va_G} {cA : Nat → ClassId} {adr : Nat → Nat} {n : Nat} {E : Nat → va_E} {sa : Nat → Nat} {lo : Nat} (hls : l.stackTraces = false)  {S : CS} (hn : 30 ≤ n) (hR : Rep cA adr S E) (dd : Int32) : vx_Met l yX3_conflicts (.code yX3_conflicts cX3_conflicts 5 (some .int) :: lw_G) ({ frames := 7, cells := 1, slots := 6, locals := 102 } : Room) (va_Pc [.ref (adr 0), .int dd] (wdX D (kty cA) sa lo adr n E)) (qR (some (.int (r_conf S dd))) (k_conf S dd = 0)) (xT (fun X => k_conf S dd = 1 ∧ X = nIOB)) 1 6 (fun _ => False) := by
  refine vx_ofW (cc := cX3_conflicts) (maxL := 5) (ret := (some .int)) (by decide) rfl ?_
  intro p e s m args below meth c s₁ B hml hno hv
  obtain ⟨rfl, hP, hN, hX⟩ := hv
  have hx := B.exec
  have hb := B.bytes
  have hr := B.returns
  have hG : ∀ w ∈ lw_G, w.before _ s = true := fun w h => atoms_spec (ws := _ :: lw_G) B.pre w (List.mem_cons_of_mem _ h)
  have hown : s.vm.findClass RX3 = some m.cls := findClass_of_methodNamed B.named
  have hlocks := B.notSynchronized
  have hK := hN.1
  have hl := lv_entry ([.ref (adr 0), .int dd]) (n := 5) (Nat.le_of_ble_eq_true rfl)
  rw [lg_entry_eq]
  generalize (lg_sl ([.ref (adr 0), .int dd]) ++ List.replicate (5 - (lg_sl ([.ref (adr 0), .int dd])).length) Slot.unset).toArray = ls at hl ⊢
  have hl : lv_has ls 5 [(0, .ref (adr 0)), (1, .int dd)] := hl
  obtain ⟨hE0, hE1, hE2, hK0, hK1, hK2, hK3, hK4, ⟨hdv, hE8⟩, hDk, hTl, hct, hnm, htd, hmk, hlf⟩ := id hR
  refine lv_iload_n hx hb dX3_conflicts_0 rfl (lv_at hl 1 rfl) ?_
  refine wx_S (rest := []) hx hb hml hown hG hN hX hP (cX3_needDesk_x hls _) (cwS 1 hG (gS g_266 g_267 g_1 g_268) rfl rfl rfl (by decide +kernel) ⟨(Nat.le_of_ble_eq_true rfl), (Nat.le_of_ble_eq_true rfl)⟩) rfl hl.1 rfl (Nat.le_of_ble_eq_true rfl) dX3_conflicts_1 ⟨(Nat.le_of_ble_eq_true rfl), (Nat.le_of_ble_eq_true rfl)⟩ hno hlocks (Nat.le_of_ble_eq_true rfl) (Nat.le_of_ble_eq_true rfl) (fun X h => ⟨by unfold k_conf; rw [h.2]; rfl, h.1⟩) (fun hC => ?_)
  have hD := hC
  obtain ⟨d, hd, rfl⟩ := inN_of hC (by decide)
  obtain ⟨hD0, hD1⟩ := hDk d hd
  refine lv_aload_n hx hb dX3_conflicts_4 rfl (lv_at hl 0 rfl) ?_
  refine va_get (D := D) (ci := 3) (v := .ref (adr 2)) (C := RX3) (T := TX3) (N := 4) hx hb hG inG_X3 hown hK hP 0 (wl_at (by omega) hE0) rfl 1 (by decide) (hG _ g_100) (fun _ h9 => h9) rfl dX3_conflicts_5 ?_
  refine lv_iload_n hx hb dX3_conflicts_8 rfl (lv_at hl 1 rfl) ?_
  refine wn_ald (j := d) (g := fun j => 9 + 2 * j) hx hb hK hP 3 (by omega) hE2 rfl (by omega) (by decide) dX3_conflicts_9 ?_
  refine lv_astore_n (lv' := [(2, .ref (adr (9 + 2 * d))), (0, .ref (adr 0)), (1, .int (nI d))]) hx hb dX3_conflicts_10 rfl hl (by decide) rfl (fun ls hl => ?_)
  refine lv_iconst (v := 0) hx hb dX3_conflicts_11 (by decide) ?_
  refine lv_istore_n (lv' := [(3, .int 0), (2, .ref (adr (9 + 2 * d))), (0, .ref (adr 0)), (1, .int (nI d))]) hx hb dX3_conflicts_12 rfl hl (by decide) rfl (fun ls hl => ?_)
  refine lv_iconst (v := 0) hx hb dX3_conflicts_13 (by decide) ?_
  refine lv_istore (lv' := [(4, .int 0), (3, .int 0), (2, .ref (adr (9 + 2 * d))), (0, .ref (adr 0)), (1, .int (nI d))]) hx hb dX3_conflicts_14 hl (by decide) rfl (fun ls hl => ?_)
  have L16 : ∀ (f : Nat) (i : Nat), c_ct S - i < f → i ≤ c_ct S → ∀ ls : Array Slot, lv_has ls 5 [(4, .int (nI i)), (3, .int (nI (ctB (fun i => c_see S d i && c_beg S d i) i))), (0, .ref (adr 0)), (2, .ref (adr (9 + 2 * d))), (1, .int (nI d))] → W p l e (headSpec (.code yX3_conflicts cX3_conflicts 5 (some .int) :: lw_G) ({ frames := 7, cells := 1, slots := 6, locals := 102 } : Room)).room s m [.ref (adr 0), .int (nI d)].toArray below meth c s.heap [] 1 6 (vx_MQ below (qR (some (.int (r_conf S (nI d)))) (k_conf S (nI d) = 0)) (xT (fun X => k_conf S (nI d) = 1 ∧ X = nIOB)) [.ref (adr 0), .int (nI d)].toArray s 1 6 (fun _ => False)) (F0 m 16 ls []) := by
    intro f
    induction f with
    | zero => intro i h0; exact absurd h0 (by omega)
    | succ f ih =>
      intro i hf hi ls hl
      refine lv_iload hx hb dX3_conflicts_16 (lv_at hl 0 rfl) ?_
      refine lv_aload_n hx hb dX3_conflicts_18 rfl (lv_at hl 2 rfl) ?_
      refine va_get (D := D) (ci := 3) (v := .ref (adr 3)) (C := RX3) (T := TX3) (N := 4) hx hb hG inG_X3 hown hK hP 0 (wl_at (by omega) hE0) rfl 2 (by decide) (hG _ g_101) (fun _ h9 => h9) rfl dX3_conflicts_19 ?_
      refine va_get (D := D) (ci := 2) (v := .int (nI (c_ct S))) (C := RX2) (T := TX2) (N := 5) hx hb hG inG_X2 hown hK hP 3 (wl_at (by omega) hK0) rfl 4 (by decide) (hG _ g_41) (fun _ h9 => h9) rfl dX3_conflicts_22 ?_
      refine lv_icmp_ge (tgt := 56) hx hb dX3_conflicts_25 (by decide) (fun c25 => ?_) (fun c25 => ?_)
      · have n25 : (c_ct S) ≤ i := (nI_leI (a := (c_ct S)) (b := i) (by omega) (by omega)).mp c25
        refine lv_iload_n hx hb dX3_conflicts_56 rfl (lv_at hl 1 rfl) ?_
        refine W.widen (k := 1) (n := 6) (Nat.le_of_ble_eq_true rfl) (Nat.le_of_ble_eq_true rfl) ?_
        exact vx_ret (W.iret (v := nI (ctB (fun i => c_see S d i && c_beg S d i) i)) hx hb hr (fun t ht _ => ⟨congrArg (fun z => Outcome.returned (some (Value.int z))) (by unfold r_conf; rw [nI_clamp (by omega), show c_ct S = i from by omega]), by unfold k_conf; rw [hD]; rfl, ht⟩) (fun _ h => nomatch h) dX3_conflicts_57)
      · have n25 : ¬ (c_ct S) ≤ i := fun h => c25 ((nI_leI (a := (c_ct S)) (b := i) (by omega) (by omega)).mpr h)
        refine lv_aload_n hx hb dX3_conflicts_28 rfl (lv_at hl 3 rfl) ?_
        refine lv_iload hx hb dX3_conflicts_29 (lv_at hl 0 rfl) ?_
        refine wn_rV (rest := []) hx hb hml hown hG hN hP (cX0_hasSeen_r (by omega) hD0 hD1 (j := i) (by omega)) (cwV 1 hG (gV g_343 g_344 g_345 g_4 g_346) rfl rfl rfl (by decide +kernel) ⟨Nat.le_of_ble_eq_true rfl, Nat.le_of_ble_eq_true rfl⟩) (by omega) hD0 rfl rfl hl.1 rfl (Nat.le_of_ble_eq_true rfl) dX3_conflicts_31 ⟨Nat.le_of_ble_eq_true rfl, Nat.le_of_ble_eq_true rfl⟩ ?_
        refine lv_if_eq (tgt := 50) hx hb dX3_conflicts_34 (by decide) (fun c34 => ?_) (fun c34 => ?_)
        · have n34 : (c_see S d i) = false := bI_0.mp c34
          have hcs : ctB (fun i => c_see S d i && c_beg S d i) (i + 1) = ctB (fun i => c_see S d i && c_beg S d i) i := ctB_f (by simp only [n34, Bool.false_and])
          rw [← hcs] at hl
          refine lv_iinc (v := nI (i + 1)) (lv' := [(4, .int (nI (i + 1))), (3, .int (nI (ctB (fun i => c_see S d i && c_beg S d i) (i + 1)))), (0, .ref (adr 0)), (2, .ref (adr (9 + 2 * d))), (1, .int (nI d))]) hx hb dX3_conflicts_50 hl (k := 0) rfl (nI_1 _) (by decide) rfl (fun ls hl => ?_)
          refine lv_goto (tgt := 16) hx hb dX3_conflicts_53 (by decide) ?_
          exact ih (i + 1) (by omega) (by omega) ls (lv_sub hl [0, 1, 2, 3, 4] rfl)
        · have n34 : (c_see S d i) = true := bI_1.mp c34
          refine lv_aload_n hx hb dX3_conflicts_37 rfl (lv_at hl 2 rfl) ?_
          refine lv_aload_n hx hb dX3_conflicts_38 rfl (lv_at hl 3 rfl) ?_
          refine lv_iload hx hb dX3_conflicts_39 (lv_at hl 0 rfl) ?_
          refine wn_rV (rest := []) hx hb hml hown hG hN hP (cX3_beginsConflict_r hn hR hd (i := i) (by omega)) (cwV 2 hG (gV g_373 g_375 gp_X3_beginsConflict g_1 g_376) rfl rfl rfl (by decide +kernel) ⟨Nat.le_of_ble_eq_true rfl, Nat.le_of_ble_eq_true rfl⟩) (by omega) hE0 rfl rfl hl.1 rfl (Nat.le_of_ble_eq_true rfl) dX3_conflicts_41 ⟨Nat.le_of_ble_eq_true rfl, Nat.le_of_ble_eq_true rfl⟩ ?_
          refine lv_if_eq (tgt := 50) hx hb dX3_conflicts_44 (by decide) (fun c44 => ?_) (fun c44 => ?_)
          · have n44 : (c_beg S d i) = false := bI_0.mp c44
            have hcs : ctB (fun i => c_see S d i && c_beg S d i) (i + 1) = ctB (fun i => c_see S d i && c_beg S d i) i := ctB_f (by simp only [n44, Bool.and_false])
            rw [← hcs] at hl
            refine lv_iinc (v := nI (i + 1)) (lv' := [(4, .int (nI (i + 1))), (3, .int (nI (ctB (fun i => c_see S d i && c_beg S d i) (i + 1)))), (0, .ref (adr 0)), (2, .ref (adr (9 + 2 * d))), (1, .int (nI d))]) hx hb dX3_conflicts_50 hl (k := 0) rfl (nI_1 _) (by decide) rfl (fun ls hl => ?_)
            refine lv_goto (tgt := 16) hx hb dX3_conflicts_53 (by decide) ?_
            exact ih (i + 1) (by omega) (by omega) ls (lv_sub hl [0, 1, 2, 3, 4] rfl)
          · have n44 : (c_beg S d i) = true := bI_1.mp c44
            have hcs : ctB (fun i => c_see S d i && c_beg S d i) (i + 1) = ctB (fun i => c_see S d i && c_beg S d i) i + 1 := ctB_t (by simp only [n34, n44, Bool.and_true])
            refine lv_iinc (v := nI (ctB (fun i => c_see S d i && c_beg S d i) (i + 1))) (lv' := [(3, .int (nI (ctB (fun i => c_see S d i && c_beg S d i) (i + 1)))), (4, .int (nI i)), (0, .ref (adr 0)), (2, .ref (adr (9 + 2 * d))), (1, .int (nI d))]) hx hb dX3_conflicts_47 hl (k := 1) rfl (by rw [hcs]; exact nI_1 _) (by decide) rfl (fun ls hl => ?_)
            refine lv_iinc (v := nI (i + 1)) (lv' := [(4, .int (nI (i + 1))), (3, .int (nI (ctB (fun i => c_see S d i && c_beg S d i) (i + 1)))), (0, .ref (adr 0)), (2, .ref (adr (9 + 2 * d))), (1, .int (nI d))]) hx hb dX3_conflicts_50 hl (k := 1) rfl (nI_1 _) (by decide) rfl (fun ls hl => ?_)
            refine lv_goto (tgt := 16) hx hb dX3_conflicts_53 (by decide) ?_
            exact ih (i + 1) (by omega) (by omega) ls (lv_sub hl [0, 1, 2, 3, 4] rfl)
  exact L16 (c_ct S + 1) 0 (by omega) (by omega) ls (lv_sub hl [0, 1, 3, 2, 4] rfl)

set_option maxHeartbeats 4000000 in
set_option maxRecDepth 100000 in
theorem cX3_last_x {l : Launch} {D : va_G} {cA : Nat → ClassId} {adr : Nat → Nat} {n : Nat} {E : Nat → va_E} {sa : Nat → Nat} {lo : Nat} (hls : l.stackTraces = false)  {S : CS} (hn : 30 ≤ n) (hR : Rep cA adr S E) (dd kk ww : Int32) : vx_Met l yX3_last (.code yX3_last cX3_last 6 (some .int) :: lw_G) ({ frames := 7, cells := 3, slots := 18, locals := 119 } : Room) (va_Pc [.ref (adr 0), .int dd, .int kk, .int ww] (wdX D (kty cA) sa lo adr n E)) (qR (some (.int (r_last S dd kk ww))) (k_last S dd kk ww = 0)) (xT (fun X => (k_last S dd kk ww = 1 ∧ X = nIOB) ∨ (k_last S dd kk ww = 2 ∧ X = nISE))) 3 18 (fun _ => False) := by
  refine vx_ofW (cc := cX3_last) (maxL := 6) (ret := (some .int)) (by decide) rfl ?_
  intro p e s m args below meth c s₁ B hml hno hv
  obtain ⟨rfl, hP, hN, hX⟩ := hv
  have hx := B.exec
  have hb := B.bytes
  have hr := B.returns
  have hG : ∀ w ∈ lw_G, w.before _ s = true := fun w h => atoms_spec (ws := _ :: lw_G) B.pre w (List.mem_cons_of_mem _ h)
  have hown : s.vm.findClass RX3 = some m.cls := findClass_of_methodNamed B.named
  have hlocks := B.notSynchronized
  have hK := hN.1
  have hl := lv_entry ([.ref (adr 0), .int dd, .int kk, .int ww]) (n := 6) (Nat.le_of_ble_eq_true rfl)
  rw [lg_entry_eq]
  generalize (lg_sl ([.ref (adr 0), .int dd, .int kk, .int ww]) ++ List.replicate (6 - (lg_sl ([.ref (adr 0), .int dd, .int kk, .int ww])).length) Slot.unset).toArray = ls at hl ⊢
  have hl : lv_has ls 6 [(0, .ref (adr 0)), (1, .int dd), (2, .int kk), (3, .int ww)] := hl
  obtain ⟨hE0, hE1, hE2, hK0, hK1, hK2, hK3, hK4, ⟨hdv, hE8⟩, hDk, hTl, hct, hnm, htd, hmk, hlf⟩ := id hR
  refine lv_iload_n hx hb dX3_last_0 rfl (lv_at hl 1 rfl) ?_
  refine wx_S (rest := []) hx hb hml hown hG hN hX hP (cX3_needDesk_x hls _) (cwS 1 hG (gS g_266 g_267 g_1 g_268) rfl rfl rfl (by decide +kernel) ⟨(Nat.le_of_ble_eq_true rfl), (Nat.le_of_ble_eq_true rfl)⟩) rfl hl.1 rfl (Nat.le_of_ble_eq_true rfl) dX3_last_1 ⟨(Nat.le_of_ble_eq_true rfl), (Nat.le_of_ble_eq_true rfl)⟩ hno hlocks (Nat.le_of_ble_eq_true rfl) (Nat.le_of_ble_eq_true rfl) (fun X h => Or.inl ⟨by unfold k_last; rw [h.2]; rfl, h.1⟩) (fun hC => ?_)
  have hD := hC
  obtain ⟨d, hd, rfl⟩ := inN_of hC (by decide)
  obtain ⟨hD0, hD1⟩ := hDk d hd
  refine lv_iload_n hx hb dX3_last_4 rfl (lv_at hl 2 rfl) ?_
  refine wx_S (rest := []) hx hb hml hown hG hN hX hP (cX3_needKey_x hls _) (cwS 1 hG (gS g_404 g_405 g_1 g_406) rfl rfl rfl (by decide +kernel) ⟨(Nat.le_of_ble_eq_true rfl), (Nat.le_of_ble_eq_true rfl)⟩) rfl hl.1 rfl (Nat.le_of_ble_eq_true rfl) dX3_last_5 ⟨(Nat.le_of_ble_eq_true rfl), (Nat.le_of_ble_eq_true rfl)⟩ hno hlocks (Nat.le_of_ble_eq_true rfl) (Nat.le_of_ble_eq_true rfl) (fun X h => Or.inl ⟨by unfold k_last; rw [h.2, Bool.and_false]; rfl, h.1⟩) (fun hC => ?_)
  have hK9 := hC
  obtain ⟨k, hk, rfl⟩ := inN_of hC (by decide)
  refine lv_iload_n hx hb dX3_last_8 rfl (lv_at hl 3 rfl) ?_
  refine lv_if_lt (tgt := 17) hx hb dX3_last_9 (by decide) (fun c9 => ?_) (fun c9 => ?_)
  · exact th_IOB hx hb hls hown hG hN hX (hl.1.trans hml.symm) 14 rfl dX3_last_17 dX3_last_20 dX3_last_21 dX3_last_23 dX3_last_26 hno (Nat.le_of_ble_eq_true rfl) (Nat.le_of_ble_eq_true rfl) (Nat.le_of_ble_eq_true rfl) (Nat.le_of_ble_eq_true rfl) hlocks (Or.inl ⟨by unfold k_last; rw [(show inN ww 5 = false from by first | exact inN_neg c9 | exact Bool.eq_false_iff.mpr (fun h => c14 ((inN_le (n := 4) (by decide) c9).mp h))), Bool.and_false]; rfl, rfl⟩) (Nat.le_of_ble_eq_true rfl) (Nat.le_of_ble_eq_true rfl)
  · refine lv_iload_n hx hb dX3_last_12 rfl (lv_at hl 3 rfl) ?_
    refine lv_iconst (v := 4) hx hb dX3_last_13 (by decide) ?_
    refine lv_icmp_le (tgt := 27) hx hb dX3_last_14 (by decide) (fun c14 => ?_) (fun c14 => ?_)
    · have hW : inN ww 5 = true := (inN_le (n := 4) (by decide) c9).mpr c14
      refine lv_aload_n hx hb dX3_last_27 rfl (lv_at hl 0 rfl) ?_
      refine va_get (D := D) (ci := 3) (v := .ref (adr 2)) (C := RX3) (T := TX3) (N := 4) hx hb hG inG_X3 hown hK hP 0 (wl_at (by omega) hE0) rfl 1 (by decide) (hG _ g_100) (fun _ h9 => h9) rfl dX3_last_28 ?_
      refine lv_iload_n hx hb dX3_last_31 rfl (lv_at hl 1 rfl) ?_
      refine wn_ald (j := d) (g := fun j => 9 + 2 * j) hx hb hK hP 3 (by omega) hE2 rfl (by omega) (by decide) dX3_last_32 ?_
      refine lv_astore (lv' := [(4, .ref (adr (9 + 2 * d))), (0, .ref (adr 0)), (1, .int (nI d)), (2, .int (nI k)), (3, .int ww)]) hx hb dX3_last_33 hl (by decide) rfl (fun ls hl => ?_)
      refine lv_aload_n hx hb dX3_last_35 rfl (lv_at hl 1 rfl) ?_
      refine lv_aload hx hb dX3_last_36 (lv_at hl 0 rfl) ?_
      refine lv_iload_n hx hb dX3_last_38 rfl (lv_at hl 3 rfl) ?_
      refine lv_aload hx hb dX3_last_39 (lv_at hl 0 rfl) ?_
      refine va_get (D := D) (ci := 0) (v := .int (c_mt S d)) (C := RX0) (T := TX0) (N := 5) hx hb hG inG_X0 hown hK hP (9 + 2 * d) (wl_at (by omega) hD0) rfl 1 (by decide) (hG _ g_81) (fun _ h9 => h9) rfl dX3_last_41 ?_
      refine wn_rV (rest := []) hx hb hml hown hG hN hP (cX3_findLast_r hn hR hd (key := k) (by omega) (c_mt S d)) (cwV 3 hG (gV g_409 g_411 gp_X3_findLast g_1 g_412) rfl rfl rfl (by decide +kernel) ⟨Nat.le_of_ble_eq_true rfl, Nat.le_of_ble_eq_true rfl⟩) (by omega) hE0 rfl rfl hl.1 rfl (Nat.le_of_ble_eq_true rfl) dX3_last_44 ⟨Nat.le_of_ble_eq_true rfl, Nat.le_of_ble_eq_true rfl⟩ ?_
      refine lv_istore (lv' := [(5, .int (oI (c_lst S d k (c_mt S d)))), (4, .ref (adr (9 + 2 * d))), (0, .ref (adr 0)), (1, .int (nI d)), (2, .int (nI k)), (3, .int ww)]) hx hb dX3_last_47 hl (by decide) rfl (fun ls hl => ?_)
      refine lv_iload hx hb dX3_last_49 (lv_at hl 0 rfl) ?_
      refine lv_iconst (v := (-1)) hx hb dX3_last_51 (by decide) ?_
      refine lv_icmp_ne (tgt := 65) hx hb dX3_last_52 (by decide) (fun c52 => ?_) (fun c52 => ?_)
      · obtain ⟨z, hz⟩ := oI_ne c52
        have bz := lst_lt hz
        rw [hz] at hl
        refine lv_iload_n hx hb dX3_last_65 rfl (lv_at hl 5 rfl) ?_
        obtain ⟨j, hj, rfl⟩ := inN_of hW (by decide)
        rcases (show j = 0 ∨ j = 1 ∨ j = 2 ∨ j = 3 ∨ j = 4 by omega) with rfl | rfl | rfl | rfl | rfl
        · refine lv_tableIn (off := 30) (tgt := 96) hx hb dX3_last_66 (by decide) (by decide) (by decide) (by decide) ?_
          refine lv_aload_n hx hb dX3_last_96 rfl (lv_at hl 2 rfl) ?_
          refine va_get (D := D) (ci := 3) (v := .ref (adr 3)) (C := RX3) (T := TX3) (N := 4) hx hb hG inG_X3 hown hK hP 0 (wl_at (by omega) hE0) rfl 2 (by decide) (hG _ g_101) (fun _ h9 => h9) rfl dX3_last_97 ?_
          refine va_get (D := D) (ci := 2) (v := .ref (adr (3 + 3))) (C := RX2) (T := TX2) (N := 5) hx hb hG inG_X2 hown hK hP 3 (wl_at (by omega) hK0) rfl 2 (by decide) (hG _ g_37) (fun _ h9 => h9) rfl dX3_last_100 ?_
          refine lv_iload hx hb dX3_last_103 (lv_at hl 0 rfl) ?_
          refine wn_iald (j := z) hx hb hK hP (by omega) hK3 (by omega) (by decide) dX3_last_105 ?_
          refine W.widen (k := 3) (n := 18) (Nat.le_of_ble_eq_true rfl) (Nat.le_of_ble_eq_true rfl) ?_
          exact vx_ret (W.iret (v := (c_vl S) z) hx hb hr (fun t ht _ => ⟨congrArg (fun z => Outcome.returned (some (Value.int z))) (by unfold r_last; rw [nI_clamp (by omega), nI_clamp (by omega), hz]; rfl), by unfold k_last; rw [hD, hK9, hW, nI_clamp (by omega), nI_clamp (by omega), hz]; rfl, ht⟩) (fun _ h => nomatch h) dX3_last_106)
        · refine lv_tableIn (off := 41) (tgt := 107) hx hb dX3_last_66 (by decide) (by decide) (by decide) (by decide) ?_
          refine lv_aload_n hx hb dX3_last_107 rfl (lv_at hl 2 rfl) ?_
          refine lv_iload hx hb dX3_last_108 (lv_at hl 0 rfl) ?_
          refine wn_rV (rest := []) hx hb hml hown hG hN hP (cX3_realTimeOf_r hn hR (i := z) (by omega)) (cwV 1 hG (gV g_428 g_430 gp_X3_realTimeOf g_1 g_431) rfl rfl rfl (by decide +kernel) ⟨Nat.le_of_ble_eq_true rfl, Nat.le_of_ble_eq_true rfl⟩) (by omega) hE0 rfl rfl hl.1 rfl (Nat.le_of_ble_eq_true rfl) dX3_last_110 ⟨Nat.le_of_ble_eq_true rfl, Nat.le_of_ble_eq_true rfl⟩ ?_
          refine W.widen (k := 3) (n := 18) (Nat.le_of_ble_eq_true rfl) (Nat.le_of_ble_eq_true rfl) ?_
          exact vx_ret (W.iret (v := c_rt S z) hx hb hr (fun t ht _ => ⟨congrArg (fun z => Outcome.returned (some (Value.int z))) (by unfold r_last; rw [nI_clamp (by omega), nI_clamp (by omega), hz]; rfl), by unfold k_last; rw [hD, hK9, hW, nI_clamp (by omega), nI_clamp (by omega), hz]; rfl, ht⟩) (fun _ h => nomatch h) dX3_last_113)
        · refine lv_tableIn (off := 48) (tgt := 114) hx hb dX3_last_66 (by decide) (by decide) (by decide) (by decide) ?_
          refine lv_aload_n hx hb dX3_last_114 rfl (lv_at hl 2 rfl) ?_
          refine va_get (D := D) (ci := 3) (v := .ref (adr 3)) (C := RX3) (T := TX3) (N := 4) hx hb hG inG_X3 hown hK hP 0 (wl_at (by omega) hE0) rfl 2 (by decide) (hG _ g_101) (fun _ h9 => h9) rfl dX3_last_115 ?_
          refine lv_iload hx hb dX3_last_118 (lv_at hl 0 rfl) ?_
          refine wn_rV (rest := []) hx hb hml hown hG hN hP (cX2_teller_r (by omega) hct hK0 hK1 hK2 hK3 hK4 hnm htd (i := z) (by omega)) (cwV 1 hG (gV g_432 g_433 g_434 g_2 g_435) rfl rfl rfl (by decide +kernel) ⟨Nat.le_of_ble_eq_true rfl, Nat.le_of_ble_eq_true rfl⟩) (by omega) hK0 rfl rfl hl.1 rfl (Nat.le_of_ble_eq_true rfl) dX3_last_120 ⟨Nat.le_of_ble_eq_true rfl, Nat.le_of_ble_eq_true rfl⟩ ?_
          refine W.widen (k := 3) (n := 18) (Nat.le_of_ble_eq_true rfl) (Nat.le_of_ble_eq_true rfl) ?_
          exact vx_ret (W.iret (v := nI (c_nm S z / 512)) hx hb hr (fun t ht _ => ⟨congrArg (fun z => Outcome.returned (some (Value.int z))) (by unfold r_last; rw [nI_clamp (by omega), nI_clamp (by omega), hz]; rfl), by unfold k_last; rw [hD, hK9, hW, nI_clamp (by omega), nI_clamp (by omega), hz]; rfl, ht⟩) (fun _ h => nomatch h) dX3_last_123)
        · refine lv_tableIn (off := 58) (tgt := 124) hx hb dX3_last_66 (by decide) (by decide) (by decide) (by decide) ?_
          refine lv_aload_n hx hb dX3_last_124 rfl (lv_at hl 2 rfl) ?_
          refine va_get (D := D) (ci := 3) (v := .ref (adr 3)) (C := RX3) (T := TX3) (N := 4) hx hb hG inG_X3 hown hK hP 0 (wl_at (by omega) hE0) rfl 2 (by decide) (hG _ g_101) (fun _ h9 => h9) rfl dX3_last_125 ?_
          refine lv_iload hx hb dX3_last_128 (lv_at hl 0 rfl) ?_
          refine wn_rV (rest := []) hx hb hml hown hG hN hP (cX2_number_r (by omega) hct hK0 hK1 hK2 hK3 hK4 hnm htd (i := z) (by omega)) (cwV 1 hG (gV g_455 g_447 g_448 g_2 g_449) rfl rfl rfl (by decide +kernel) ⟨Nat.le_of_ble_eq_true rfl, Nat.le_of_ble_eq_true rfl⟩) (by omega) hK0 rfl rfl hl.1 rfl (Nat.le_of_ble_eq_true rfl) dX3_last_130 ⟨Nat.le_of_ble_eq_true rfl, Nat.le_of_ble_eq_true rfl⟩ ?_
          refine W.widen (k := 3) (n := 18) (Nat.le_of_ble_eq_true rfl) (Nat.le_of_ble_eq_true rfl) ?_
          exact vx_ret (W.iret (v := nI (c_nm S z % 128)) hx hb hr (fun t ht _ => ⟨congrArg (fun z => Outcome.returned (some (Value.int z))) (by unfold r_last; rw [nI_clamp (by omega), nI_clamp (by omega), hz]; rfl), by unfold k_last; rw [hD, hK9, hW, nI_clamp (by omega), nI_clamp (by omega), hz]; rfl, ht⟩) (fun _ h => nomatch h) dX3_last_133)
        · refine lv_tableOut (tgt := 134) hx hb dX3_last_66 (by decide) (by decide) ?_
          refine lv_aload_n hx hb dX3_last_134 rfl (lv_at hl 2 rfl) ?_
          refine va_get (D := D) (ci := 3) (v := .ref (adr 3)) (C := RX3) (T := TX3) (N := 4) hx hb hG inG_X3 hown hK hP 0 (wl_at (by omega) hE0) rfl 2 (by decide) (hG _ g_101) (fun _ h9 => h9) rfl dX3_last_135 ?_
          refine lv_iload hx hb dX3_last_138 (lv_at hl 0 rfl) ?_
          refine wn_rV (rest := []) hx hb hml hown hG hN hP (cX2_life_r (by omega) hct hK0 hK1 hK2 hK3 hK4 hnm htd (i := z) (by omega)) (cwV 1 hG (gV g_456 g_441 g_442 g_2 g_443) rfl rfl rfl (by decide +kernel) ⟨Nat.le_of_ble_eq_true rfl, Nat.le_of_ble_eq_true rfl⟩) (by omega) hK0 rfl rfl hl.1 rfl (Nat.le_of_ble_eq_true rfl) dX3_last_140 ⟨Nat.le_of_ble_eq_true rfl, Nat.le_of_ble_eq_true rfl⟩ ?_
          refine W.widen (k := 3) (n := 18) (Nat.le_of_ble_eq_true rfl) (Nat.le_of_ble_eq_true rfl) ?_
          exact vx_ret (W.iret (v := nI (c_nm S z / 128 % 4)) hx hb hr (fun t ht _ => ⟨congrArg (fun z => Outcome.returned (some (Value.int z))) (by unfold r_last; rw [nI_clamp (by omega), nI_clamp (by omega), hz]; rfl), by unfold k_last; rw [hD, hK9, hW, nI_clamp (by omega), nI_clamp (by omega), hz]; rfl, ht⟩) (fun _ h => nomatch h) dX3_last_143)
      · exact th_ISE hx hb hls hown hG hN hX (hl.1.trans hml.symm) 15 rfl dX3_last_55 dX3_last_58 dX3_last_59 dX3_last_61 dX3_last_64 hno (Nat.le_of_ble_eq_true rfl) (Nat.le_of_ble_eq_true rfl) (Nat.le_of_ble_eq_true rfl) (Nat.le_of_ble_eq_true rfl) hlocks (Or.inr ⟨by unfold k_last; rw [hD, hK9, hW, nI_clamp (by omega), nI_clamp (by omega), if_pos ((oI_n1 (fun z hz => by have := lst_lt hz; omega)).mp c52)]; rfl, rfl⟩) (Nat.le_of_ble_eq_true rfl) (Nat.le_of_ble_eq_true rfl)
    · exact th_IOB hx hb hls hown hG hN hX (hl.1.trans hml.symm) 14 rfl dX3_last_17 dX3_last_20 dX3_last_21 dX3_last_23 dX3_last_26 hno (Nat.le_of_ble_eq_true rfl) (Nat.le_of_ble_eq_true rfl) (Nat.le_of_ble_eq_true rfl) (Nat.le_of_ble_eq_true rfl) hlocks (Or.inl ⟨by unfold k_last; rw [(show inN ww 5 = false from by first | exact inN_neg c9 | exact Bool.eq_false_iff.mpr (fun h => c14 ((inN_le (n := 4) (by decide) c9).mp h))), Bool.and_false]; rfl, rfl⟩) (Nat.le_of_ble_eq_true rfl) (Nat.le_of_ble_eq_true rfl)

set_option maxHeartbeats 4000000 in
set_option maxRecDepth 100000 in
theorem cX3_known_x {l : Launch} {D : va_G} {cA : Nat → ClassId} {adr : Nat → Nat} {n : Nat} {E : Nat → va_E} {sa : Nat → Nat} {lo : Nat} (hls : l.stackTraces = false)  {S : CS} (hn : 30 ≤ n) (hR : Rep cA adr S E) (dd kk mm : Int32) : vx_Met l yX3_known (.code yX3_known cX3_known 6 (some .int) :: lw_G) ({ frames := 7, cells := 3, slots := 18, locals := 119 } : Room) (va_Pc [.ref (adr 0), .int dd, .int kk, .int mm] (wdX D (kty cA) sa lo adr n E)) (qR (some (.int (r_known S dd kk mm))) (k_known S dd kk mm = 0)) (xT (fun X => (k_known S dd kk mm = 1 ∧ X = nIOB) ∨ (k_known S dd kk mm = 2 ∧ X = nISE) ∨ (k_known S dd kk mm = 3 ∧ X = nIAE))) 3 18 (fun _ => False) := by
  refine vx_ofW (cc := cX3_known) (maxL := 6) (ret := (some .int)) (by decide) rfl ?_
  intro p e s m args below meth c s₁ B hml hno hv
  obtain ⟨rfl, hP, hN, hX⟩ := hv
  have hx := B.exec
  have hb := B.bytes
  have hr := B.returns
  have hG : ∀ w ∈ lw_G, w.before _ s = true := fun w h => atoms_spec (ws := _ :: lw_G) B.pre w (List.mem_cons_of_mem _ h)
  have hown : s.vm.findClass RX3 = some m.cls := findClass_of_methodNamed B.named
  have hlocks := B.notSynchronized
  have hK := hN.1
  have hl := lv_entry ([.ref (adr 0), .int dd, .int kk, .int mm]) (n := 6) (Nat.le_of_ble_eq_true rfl)
  rw [lg_entry_eq]
  generalize (lg_sl ([.ref (adr 0), .int dd, .int kk, .int mm]) ++ List.replicate (6 - (lg_sl ([.ref (adr 0), .int dd, .int kk, .int mm])).length) Slot.unset).toArray = ls at hl ⊢
  have hl : lv_has ls 6 [(0, .ref (adr 0)), (1, .int dd), (2, .int kk), (3, .int mm)] := hl
  obtain ⟨hE0, hE1, hE2, hK0, hK1, hK2, hK3, hK4, ⟨hdv, hE8⟩, hDk, hTl, hct, hnm, htd, hmk, hlf⟩ := id hR
  refine lv_iload_n hx hb dX3_known_0 rfl (lv_at hl 1 rfl) ?_
  refine wx_S (rest := []) hx hb hml hown hG hN hX hP (cX3_needDesk_x hls _) (cwS 1 hG (gS g_266 g_267 g_1 g_268) rfl rfl rfl (by decide +kernel) ⟨(Nat.le_of_ble_eq_true rfl), (Nat.le_of_ble_eq_true rfl)⟩) rfl hl.1 rfl (Nat.le_of_ble_eq_true rfl) dX3_known_1 ⟨(Nat.le_of_ble_eq_true rfl), (Nat.le_of_ble_eq_true rfl)⟩ hno hlocks (Nat.le_of_ble_eq_true rfl) (Nat.le_of_ble_eq_true rfl) (fun X h => Or.inl ⟨by unfold k_known; rw [h.2]; rfl, h.1⟩) (fun hC => ?_)
  have hD := hC
  obtain ⟨d, hd, rfl⟩ := inN_of hC (by decide)
  obtain ⟨hD0, hD1⟩ := hDk d hd
  refine lv_iload_n hx hb dX3_known_4 rfl (lv_at hl 2 rfl) ?_
  refine wx_S (rest := []) hx hb hml hown hG hN hX hP (cX3_needKey_x hls _) (cwS 1 hG (gS g_404 g_405 g_1 g_406) rfl rfl rfl (by decide +kernel) ⟨(Nat.le_of_ble_eq_true rfl), (Nat.le_of_ble_eq_true rfl)⟩) rfl hl.1 rfl (Nat.le_of_ble_eq_true rfl) dX3_known_5 ⟨(Nat.le_of_ble_eq_true rfl), (Nat.le_of_ble_eq_true rfl)⟩ hno hlocks (Nat.le_of_ble_eq_true rfl) (Nat.le_of_ble_eq_true rfl) (fun X h => Or.inl ⟨by unfold k_known; rw [h.2, Bool.and_false]; rfl, h.1⟩) (fun hC => ?_)
  have hK9 := hC
  obtain ⟨k, hk, rfl⟩ := inN_of hC (by decide)
  refine lv_aload_n hx hb dX3_known_8 rfl (lv_at hl 0 rfl) ?_
  refine va_get (D := D) (ci := 3) (v := .ref (adr 2)) (C := RX3) (T := TX3) (N := 4) hx hb hG inG_X3 hown hK hP 0 (wl_at (by omega) hE0) rfl 1 (by decide) (hG _ g_100) (fun _ h9 => h9) rfl dX3_known_9 ?_
  refine lv_iload_n hx hb dX3_known_12 rfl (lv_at hl 1 rfl) ?_
  refine wn_ald (j := d) (g := fun j => 9 + 2 * j) hx hb hK hP 3 (by omega) hE2 rfl (by omega) (by decide) dX3_known_13 ?_
  refine lv_astore (lv' := [(4, .ref (adr (9 + 2 * d))), (0, .ref (adr 0)), (1, .int (nI d)), (2, .int (nI k)), (3, .int mm)]) hx hb dX3_known_14 hl (by decide) rfl (fun ls hl => ?_)
  refine lv_iload_n hx hb dX3_known_16 rfl (lv_at hl 4 rfl) ?_
  refine lv_if_lt (tgt := 29) hx hb dX3_known_17 (by decide) (fun c17 => ?_) (fun c17 => ?_)
  · exact th_IAE hx hb hls hown hG hN hX (hl.1.trans hml.symm) 16 rfl dX3_known_29 dX3_known_32 dX3_known_33 dX3_known_35 dX3_known_38 hno (Nat.le_of_ble_eq_true rfl) (Nat.le_of_ble_eq_true rfl) (Nat.le_of_ble_eq_true rfl) (Nat.le_of_ble_eq_true rfl) hlocks (Or.inr (Or.inr ⟨by unfold k_known; rw [hD, hK9, nI_clamp (by omega), nI_clamp (by omega)]; first | (rw [show decide (0 ≤ mm) = false from by simpa using c17]; rfl) | (rw [show decide (mm ≤ c_mt S d) = false from by simpa using c26, Bool.and_false]; rfl), rfl⟩)) (Nat.le_of_ble_eq_true rfl) (Nat.le_of_ble_eq_true rfl)
  · refine lv_iload_n hx hb dX3_known_20 rfl (lv_at hl 4 rfl) ?_
    refine lv_aload hx hb dX3_known_21 (lv_at hl 0 rfl) ?_
    refine va_get (D := D) (ci := 0) (v := .int (c_mt S d)) (C := RX0) (T := TX0) (N := 5) hx hb hG inG_X0 hown hK hP (9 + 2 * d) (wl_at (by omega) hD0) rfl 1 (by decide) (hG _ g_81) (fun _ h9 => h9) rfl dX3_known_23 ?_
    refine lv_icmp_le (tgt := 39) hx hb dX3_known_26 (by decide) (fun c26 => ?_) (fun c26 => ?_)
    · refine lv_aload_n hx hb dX3_known_39 rfl (lv_at hl 1 rfl) ?_
      refine lv_aload hx hb dX3_known_40 (lv_at hl 0 rfl) ?_
      refine lv_iload_n hx hb dX3_known_42 rfl (lv_at hl 3 rfl) ?_
      refine lv_iload_n hx hb dX3_known_43 rfl (lv_at hl 4 rfl) ?_
      refine wn_rV (rest := []) hx hb hml hown hG hN hP (cX3_findLast_r hn hR hd (key := k) (by omega) mm) (cwV 3 hG (gV g_409 g_411 gp_X3_findLast g_1 g_412) rfl rfl rfl (by decide +kernel) ⟨Nat.le_of_ble_eq_true rfl, Nat.le_of_ble_eq_true rfl⟩) (by omega) hE0 rfl rfl hl.1 rfl (Nat.le_of_ble_eq_true rfl) dX3_known_44 ⟨Nat.le_of_ble_eq_true rfl, Nat.le_of_ble_eq_true rfl⟩ ?_
      refine lv_istore (lv' := [(5, .int (oI (c_lst S d k mm))), (4, .ref (adr (9 + 2 * d))), (0, .ref (adr 0)), (1, .int (nI d)), (2, .int (nI k)), (3, .int mm)]) hx hb dX3_known_47 hl (by decide) rfl (fun ls hl => ?_)
      refine lv_iload hx hb dX3_known_49 (lv_at hl 0 rfl) ?_
      refine lv_iconst (v := (-1)) hx hb dX3_known_51 (by decide) ?_
      refine lv_icmp_ne (tgt := 65) hx hb dX3_known_52 (by decide) (fun c52 => ?_) (fun c52 => ?_)
      · obtain ⟨z, hz⟩ := oI_ne c52
        have bz := lst_lt hz
        rw [hz] at hl
        refine lv_aload_n hx hb dX3_known_65 rfl (lv_at hl 2 rfl) ?_
        refine va_get (D := D) (ci := 3) (v := .ref (adr 3)) (C := RX3) (T := TX3) (N := 4) hx hb hG inG_X3 hown hK hP 0 (wl_at (by omega) hE0) rfl 2 (by decide) (hG _ g_101) (fun _ h9 => h9) rfl dX3_known_66 ?_
        refine va_get (D := D) (ci := 2) (v := .ref (adr (3 + 3))) (C := RX2) (T := TX2) (N := 5) hx hb hG inG_X2 hown hK hP 3 (wl_at (by omega) hK0) rfl 2 (by decide) (hG _ g_37) (fun _ h9 => h9) rfl dX3_known_69 ?_
        refine lv_iload hx hb dX3_known_72 (lv_at hl 0 rfl) ?_
        refine wn_iald (j := z) hx hb hK hP (by omega) hK3 (by omega) (by decide) dX3_known_74 ?_
        refine W.widen (k := 3) (n := 18) (Nat.le_of_ble_eq_true rfl) (Nat.le_of_ble_eq_true rfl) ?_
        exact vx_ret (W.iret (v := (c_vl S) z) hx hb hr (fun t ht _ => ⟨congrArg (fun z => Outcome.returned (some (Value.int z))) (by unfold r_known; rw [nI_clamp (by omega), nI_clamp (by omega), hz]; rfl), by unfold k_known; rw [hD, hK9, nI_clamp (by omega), nI_clamp (by omega), show decide (0 ≤ mm) = true from by simpa using c17, show decide (mm ≤ c_mt S d) = true from by simpa using c26, hz]; rfl, ht⟩) (fun _ h => nomatch h) dX3_known_75)
      · exact th_ISE hx hb hls hown hG hN hX (hl.1.trans hml.symm) 17 rfl dX3_known_55 dX3_known_58 dX3_known_59 dX3_known_61 dX3_known_64 hno (Nat.le_of_ble_eq_true rfl) (Nat.le_of_ble_eq_true rfl) (Nat.le_of_ble_eq_true rfl) (Nat.le_of_ble_eq_true rfl) hlocks (Or.inr (Or.inl ⟨by unfold k_known; rw [hD, hK9, nI_clamp (by omega), nI_clamp (by omega), show decide (0 ≤ mm) = true from by simpa using c17, show decide (mm ≤ c_mt S d) = true from by simpa using c26, if_pos ((oI_n1 (fun z hz => by have := lst_lt hz; omega)).mp c52)]; rfl, rfl⟩)) (Nat.le_of_ble_eq_true rfl) (Nat.le_of_ble_eq_true rfl)
    · exact th_IAE hx hb hls hown hG hN hX (hl.1.trans hml.symm) 16 rfl dX3_known_29 dX3_known_32 dX3_known_33 dX3_known_35 dX3_known_38 hno (Nat.le_of_ble_eq_true rfl) (Nat.le_of_ble_eq_true rfl) (Nat.le_of_ble_eq_true rfl) (Nat.le_of_ble_eq_true rfl) hlocks (Or.inr (Or.inr ⟨by unfold k_known; rw [hD, hK9, nI_clamp (by omega), nI_clamp (by omega)]; first | (rw [show decide (0 ≤ mm) = false from by simpa using c17]; rfl) | (rw [show decide (mm ≤ c_mt S d) = false from by simpa using c26, Bool.and_false]; rfl), rfl⟩)) (Nat.le_of_ble_eq_true rfl) (Nat.le_of_ble_eq_true rfl)
