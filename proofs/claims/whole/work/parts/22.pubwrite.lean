set_option maxHeartbeats 4000000 in
set_option maxRecDepth 100000 in
theorem cX3_restart_x {l : Launch} {D : va_G} {cA : Nat → ClassId} {adr : Nat → Nat} {n : Nat} {E : Nat → va_E} {sa : Nat → Nat} {lo : Nat} (hls : l.stackTraces = false) (hAd : wd_ad lo n adr) {S : CS} (hn : 30 ≤ n) (hR : Rep cA adr S E) (tt : Int32) : vx_Met l yX3_restart (.code yX3_restart cX3_restart 3 (some .int) :: lw_G) ({ frames := 7, cells := 2, slots := 12, locals := 102 } : Room) (va_Pc [.ref (adr 0), .int tt] (wdX D (kty cA) sa lo adr n E)) (pq D cA lo adr n E (k_rest S tt = 0) (r_rest S tt) (s_rest S tt)) (xT (fun X => (k_rest S tt = 1 ∧ X = nIOB) ∨ (k_rest S tt = 2 ∧ X = nISE))) 2 12 (fun q => lo ≤ q) := by
  refine vx_ofW (cc := cX3_restart) (maxL := 3) (ret := (some .int)) (by decide) rfl ?_
  intro p e s m args below meth c s₁ B hml hno hv
  obtain ⟨rfl, hP, hN, hX⟩ := hv
  have hx := B.exec
  have hb := B.bytes
  have hr := B.returns
  have hG : ∀ w ∈ lw_G, w.before _ s = true := fun w h => atoms_spec (ws := _ :: lw_G) B.pre w (List.mem_cons_of_mem _ h)
  have hown : s.vm.findClass RX3 = some m.cls := findClass_of_methodNamed B.named
  have hlocks := B.notSynchronized
  have hK := hN.1
  have hS : va_S (fun q => lo ≤ q) s.heap s.heap [] := va_S.rf
  have hl := lv_entry ([.ref (adr 0), .int tt]) (n := 3) (Nat.le_of_ble_eq_true rfl)
  rw [lg_entry_eq]
  generalize (lg_sl ([.ref (adr 0), .int tt]) ++ List.replicate (3 - (lg_sl ([.ref (adr 0), .int tt])).length) Slot.unset).toArray = ls at hl ⊢
  have hl : lv_has ls 3 [(0, .ref (adr 0)), (1, .int tt)] := hl
  obtain ⟨hE0, hE1, hE2, hK0, hK1, hK2, hK3, hK4, ⟨hdv, hE8⟩, hDk, hTl, hct, hnm, htd, hmk, hlf⟩ := id hR
  have h30 : ∀ j, 30 ≤ j → E j = E j := fun _ _ => rfl
  refine lv_iload_n hx hb dX3_restart_0 rfl (lv_at hl 1 rfl) ?_
  refine wx_S (rest := []) hx hb hml hown hG hN hX hP (cX3_needTeller_x hls _) (cwS 1 hG (gS g_122 g_123 g_1 g_124) rfl rfl rfl (by decide +kernel) ⟨(Nat.le_of_ble_eq_true rfl), (Nat.le_of_ble_eq_true rfl)⟩) rfl hl.1 rfl (Nat.le_of_ble_eq_true rfl) dX3_restart_1 ⟨(Nat.le_of_ble_eq_true rfl), (Nat.le_of_ble_eq_true rfl)⟩ hno hlocks (Nat.le_of_ble_eq_true rfl) (Nat.le_of_ble_eq_true rfl) (fun X h => Or.inl ⟨by unfold k_rest; rw [h.2]; rfl, h.1⟩) (fun hC => ?_)
  have hT9 := hC
  obtain ⟨t, ht, rfl⟩ := inN_of hC (by decide)
  obtain ⟨hT0, hT1, hT2⟩ := hTl t ht
  refine lv_aload_n hx hb dX3_restart_4 rfl (lv_at hl 0 rfl) ?_
  refine va_get (D := D) (ci := 3) (v := .ref (adr 1)) (C := RX3) (T := TX3) (N := 4) hx hb hG inG_X3 hown hK hP 0 (wl_at (by omega) hE0) rfl 0 (by decide) (hG _ g_99) (fun _ h9 => h9) rfl dX3_restart_5 ?_
  refine lv_iload_n hx hb dX3_restart_8 rfl (lv_at hl 1 rfl) ?_
  refine wn_ald (j := t) (g := fun j => 15 + 3 * j) hx hb hK hP 2 (by omega) hE1 rfl (by omega) (by decide) dX3_restart_9 ?_
  refine lv_astore_n (lv' := [(2, .ref (adr (15 + 3 * t))), (0, .ref (adr 0)), (1, .int (nI t))]) hx hb dX3_restart_10 rfl hl (by decide) rfl (fun ls hl => ?_)
  refine lv_aload_n hx hb dX3_restart_11 rfl (lv_at hl 0 rfl) ?_
  refine va_get (D := D) (ci := 1) (v := .int (nI (c_lf S t))) (C := RX1) (T := TX1) (N := 4) hx hb hG inG_X1 hown hK hP (15 + 3 * t) (wl_at (by omega) hT0) rfl 3 (by decide) (hG _ g_64) (fun _ h9 => h9) rfl dX3_restart_12 ?_
  have blf2 := hlf t ht
  refine lv_iconst (v := 3) hx hb dX3_restart_15 (by decide) ?_
  refine lv_icmp_lt (tgt := 29) hx hb dX3_restart_16 (by decide) (fun c16 => ?_) (fun c16 => ?_)
  · have n16 : (c_lf S t) < 3 := (nI_ltI (a := (c_lf S t)) (b := 3) (by omega) (by omega)).mp c16
    have blf := hlf t ht
    refine lv_aload_n hx hb dX3_restart_29 rfl (lv_at hl 0 rfl) ?_
    refine lv_dup hx hb dX3_restart_30 rfl ?_
    refine va_get (D := D) (ci := 1) (v := .int (nI (c_lf S t))) (C := RX1) (T := TX1) (N := 4) hx hb hG inG_X1 hown hK hP (15 + 3 * t) (wl_at (by omega) hT0) rfl 3 (by decide) (hG _ g_64) (fun _ h9 => h9) rfl dX3_restart_31 ?_
    refine lv_iconst (v := 1) hx hb dX3_restart_34 (by decide) ?_
    refine lv_iadd hx hb dX3_restart_35 ?_
    have hF : ∀ j, j ≠ 15 + 3 * t → E j = E j := fun j _ => rfl
    refine lv_topi (fun y9 e9 => ?_)
    have e9 : y9 = nI (c_lf S t + 1) := e9.trans (nI_1 _)
    subst e9
    refine wd_put (ci := 1) (C := RX1) (T := TX1) (N := 4) (v := .int (nI (c_lf S t + 1))) (ty := .int) hx hb hG inG_X1 tyX1 tyX1_ok nmX1 hown hK hAd hP hS (k0 := 15 + 3 * t) (by omega) hT0 rfl 3 (by decide) (hG _ g_64) (fun _ h9 => h9) rfl (by decide +kernel) rfl rfl (Nat.le_of_ble_eq_true rfl) dX3_restart_36 (fun H locs hP hS => ?_)
    obtain ⟨E1x, hE1x⟩ : ∃ z, z = va_up E (15 + 3 * t) (.inr (1, [.ref (adr (15 + 3 * t + 1)), .ref (adr (15 + 3 * t + 2)), .int (nI (c_mk S t)), .int (nI (c_lf S t + 1))])) := ⟨_, rfl⟩
    have hP : va_P D kcl (wl adr n E1x) H := by rw [hE1x]; exact hP
    have hE0 := (show E1x 0 = E 0 from by rw [hE1x, va_up_ne _ _ (by omega)]).trans hE0
    have hE1 := (show E1x 1 = E 1 from by rw [hE1x, va_up_ne _ _ (by omega)]).trans hE1
    have hE2 := (show E1x 2 = E 2 from by rw [hE1x, va_up_ne _ _ (by omega)]).trans hE2
    have hK0 := (show E1x 3 = E 3 from by rw [hE1x, va_up_ne _ _ (by omega)]).trans hK0
    have hK1 := (show E1x (3 + 1) = E (3 + 1) from by rw [hE1x, va_up_ne _ _ (by omega)]).trans hK1
    have hK2 := (show E1x (3 + 2) = E (3 + 2) from by rw [hE1x, va_up_ne _ _ (by omega)]).trans hK2
    have hK3 := (show E1x (3 + 3) = E (3 + 3) from by rw [hE1x, va_up_ne _ _ (by omega)]).trans hK3
    have hK4 := (show E1x (3 + 4) = E (3 + 4) from by rw [hE1x, va_up_ne _ _ (by omega)]).trans hK4
    have hT0 : E1x (15 + 3 * t) = .inr (1, [.ref (adr (15 + 3 * t + 1)), .ref (adr (15 + 3 * t + 2)), .int (nI (c_mk S t)), .int (nI (c_lf S t + 1))]) := by rw [hE1x, va_up_self]
    have hT1 := (show E1x (15 + 3 * t + 1) = E (15 + 3 * t + 1) from by rw [hE1x, va_up_ne _ _ (by omega)]).trans hT1
    have hT2 := (show E1x (15 + 3 * t + 2) = E (15 + 3 * t + 2) from by rw [hE1x, va_up_ne _ _ (by omega)]).trans hT2
    have hF : ∀ j, j ≠ 15 + 3 * t → E1x j = E j := fun j z0 => (show E1x j = E j from by rw [hE1x, va_up_ne _ _ z0]).trans (hF j z0)
    have fF : ∀ j, j ≠ 15 + 3 * t → j ≠ 15 + 3 * t + 1 → j ≠ 15 + 3 * t + 2 → E1x j = E j := fun j z0 _ _ => hF j z0
    have hR : Rep cA adr (uT S t (c_mk S t) (c_lf S t + 1) (c_ow S t) (c_re S t)) E1x := rep_uT hR ht hT0 hT1 hT2 fF (hmk t ht) (by omega)
    have h30 : ∀ j, 30 ≤ j → E1x j = E j := fun j hj => (fF j (by omega) (by omega) (by omega)).trans (h30 j hj)
    obtain ⟨S1, hS1⟩ : ∃ z9, z9 = uT S t (c_mk S t) (c_lf S t + 1) (c_ow S t) (c_re S t) := ⟨_, rfl⟩
    rw [← hS1] at hR
    obtain ⟨hE0, hE1, hE2, hK0, hK1, hK2, hK3, hK4, ⟨hdv, hE8⟩, hDk, hTl, hct, hnm, htd, hmk, hlf⟩ := id hR
    obtain ⟨hT0, hT1, hT2⟩ := hTl t ht
    refine lv_aload_n hx hb dX3_restart_39 rfl (lv_at hl 0 rfl) ?_
    refine va_get (D := D) (ci := 1) (v := .int (nI (c_lf S1 t))) (C := RX1) (T := TX1) (N := 4) hx hb hG inG_X1 hown hK hP (15 + 3 * t) (wl_at (by omega) hT0) rfl 3 (by decide) (hG _ g_64) (fun _ h9 => h9) rfl dX3_restart_40 ?_
    refine W.widen (k := 2) (n := 12) (Nat.le_of_ble_eq_true rfl) (Nat.le_of_ble_eq_true rfl) ?_
    exact vx_ret (W.iret (v := nI (c_lf S1 t)) hx hb hr (fun u9 ht _ => ⟨congrArg (fun z => Outcome.returned (some (Value.int z))) (by unfold r_rest; rw [hS1, uT_lf, upN_self, nI_clamp (by omega)]), by unfold k_rest; rw [hT9, nI_clamp (by omega)]; simp only [if_true]; rw [if_neg (by omega)], E1x, (by unfold s_rest; rw [nI_clamp (by omega), ← hS1]; exact hR), h30, by rw [ht]; exact hP, hS.F ht⟩) hS.2.2 dX3_restart_43)
  · have n16 : ¬ (c_lf S t) < 3 := fun h => c16 ((nI_ltI (a := (c_lf S t)) (b := 3) (by omega) (by omega)).mpr h)
    exact th_ISE hx hb hls hown hG hN hX (hl.1.trans hml.symm) 8 rfl dX3_restart_19 dX3_restart_22 dX3_restart_23 dX3_restart_25 dX3_restart_28 hno (Nat.le_of_ble_eq_true rfl) (Nat.le_of_ble_eq_true rfl) (Nat.le_of_ble_eq_true rfl) (Nat.le_of_ble_eq_true rfl) hlocks (Or.inr ⟨by unfold k_rest; rw [hT9, nI_clamp (by omega)]; simp only [if_true]; rw [if_pos (by omega)], rfl⟩) (Nat.le_of_ble_eq_true rfl) (Nat.le_of_ble_eq_true rfl)

set_option maxHeartbeats 4000000 in
set_option maxRecDepth 100000 in
theorem cX3_mark_x {l : Launch} {D : va_G} {cA : Nat → ClassId} {adr : Nat → Nat} {n : Nat} {E : Nat → va_E} {sa : Nat → Nat} {lo : Nat} (hls : l.stackTraces = false) (hAd : wd_ad lo n adr) {S : CS} (hn : 30 ≤ n) (hR : Rep cA adr S E) (tt a b : Int32) : vx_Met l yX3_mark (.code yX3_mark cX3_mark 5 (some .int) :: lw_G) ({ frames := 7, cells := 4, slots := 24, locals := 102 } : Room) (va_Pc [.ref (adr 0), .int tt, .int a, .int b] (wdX D (kty cA) sa lo adr n E)) (pq D cA lo adr n E (k_mark S tt a b = 0) (r_mark S tt) (s_mark S tt a b)) (xT (fun X => (k_mark S tt a b = 1 ∧ X = nIOB) ∨ (k_mark S tt a b = 2 ∧ X = nISE) ∨ (k_mark S tt a b = 3 ∧ X = nIAE))) 4 24 (fun q => lo ≤ q) := by
  refine vx_ofW (cc := cX3_mark) (maxL := 5) (ret := (some .int)) (by decide) rfl ?_
  intro p e s m args below meth c s₁ B hml hno hv
  obtain ⟨rfl, hP, hN, hX⟩ := hv
  have hx := B.exec
  have hb := B.bytes
  have hr := B.returns
  have hG : ∀ w ∈ lw_G, w.before _ s = true := fun w h => atoms_spec (ws := _ :: lw_G) B.pre w (List.mem_cons_of_mem _ h)
  have hown : s.vm.findClass RX3 = some m.cls := findClass_of_methodNamed B.named
  have hlocks := B.notSynchronized
  have hK := hN.1
  have hS : va_S (fun q => lo ≤ q) s.heap s.heap [] := va_S.rf
  have hl := lv_entry ([.ref (adr 0), .int tt, .int a, .int b]) (n := 5) (Nat.le_of_ble_eq_true rfl)
  rw [lg_entry_eq]
  generalize (lg_sl ([.ref (adr 0), .int tt, .int a, .int b]) ++ List.replicate (5 - (lg_sl ([.ref (adr 0), .int tt, .int a, .int b])).length) Slot.unset).toArray = ls at hl ⊢
  have hl : lv_has ls 5 [(0, .ref (adr 0)), (1, .int tt), (2, .int a), (3, .int b)] := hl
  obtain ⟨hE0, hE1, hE2, hK0, hK1, hK2, hK3, hK4, ⟨hdv, hE8⟩, hDk, hTl, hct, hnm, htd, hmk, hlf⟩ := id hR
  have h30 : ∀ j, 30 ≤ j → E j = E j := fun _ _ => rfl
  refine lv_iload_n hx hb dX3_mark_0 rfl (lv_at hl 1 rfl) ?_
  refine wx_S (rest := []) hx hb hml hown hG hN hX hP (cX3_needTeller_x hls _) (cwS 1 hG (gS g_122 g_123 g_1 g_124) rfl rfl rfl (by decide +kernel) ⟨(Nat.le_of_ble_eq_true rfl), (Nat.le_of_ble_eq_true rfl)⟩) rfl hl.1 rfl (Nat.le_of_ble_eq_true rfl) dX3_mark_1 ⟨(Nat.le_of_ble_eq_true rfl), (Nat.le_of_ble_eq_true rfl)⟩ hno hlocks (Nat.le_of_ble_eq_true rfl) (Nat.le_of_ble_eq_true rfl) (fun X h => Or.inl ⟨by unfold k_mark; rw [h.2]; rfl, h.1⟩) (fun hC => ?_)
  have hT9 := hC
  obtain ⟨t, ht, rfl⟩ := inN_of hC (by decide)
  obtain ⟨hT0, hT1, hT2⟩ := hTl t ht
  refine lv_aload_n hx hb dX3_mark_4 rfl (lv_at hl 0 rfl) ?_
  refine va_get (D := D) (ci := 3) (v := .ref (adr 1)) (C := RX3) (T := TX3) (N := 4) hx hb hG inG_X3 hown hK hP 0 (wl_at (by omega) hE0) rfl 0 (by decide) (hG _ g_99) (fun _ h9 => h9) rfl dX3_mark_5 ?_
  refine lv_iload_n hx hb dX3_mark_8 rfl (lv_at hl 1 rfl) ?_
  refine wn_ald (j := t) (g := fun j => 15 + 3 * j) hx hb hK hP 2 (by omega) hE1 rfl (by omega) (by decide) dX3_mark_9 ?_
  refine lv_astore (lv' := [(4, .ref (adr (15 + 3 * t))), (0, .ref (adr 0)), (1, .int (nI t)), (2, .int a), (3, .int b)]) hx hb dX3_mark_10 hl (by decide) rfl (fun ls hl => ?_)
  refine lv_aload hx hb dX3_mark_12 (lv_at hl 0 rfl) ?_
  have bmk := hmk t ht
  refine va_get (D := D) (ci := 1) (v := .int (nI (c_mk S t))) (C := RX1) (T := TX1) (N := 4) hx hb hG inG_X1 hown hK hP (15 + 3 * t) (wl_at (by omega) hT0) rfl 2 (by decide) (hG _ g_63) (fun _ h9 => h9) rfl dX3_mark_14 ?_
  refine lv_bipush (v := 6) hx hb dX3_mark_17 (by decide) ?_
  refine lv_icmp_lt (tgt := 32) hx hb dX3_mark_19 (by decide) (fun c19 => ?_) (fun c19 => ?_)
  · have n19 : (c_mk S t) < 6 := (nI_ltI (a := (c_mk S t)) (b := 6) (by omega) (by omega)).mp c19
    refine lv_iload_n hx hb dX3_mark_32 rfl (lv_at hl 3 rfl) ?_
    refine wx_S (rest := []) hx hb hml hown hG hN hX hP (cX3_needTime_x hls _) (cwS 1 hG (gS g_210 g_211 g_1 g_212) rfl rfl rfl (by decide +kernel) ⟨(Nat.le_of_ble_eq_true rfl), (Nat.le_of_ble_eq_true rfl)⟩) rfl hl.1 rfl (Nat.le_of_ble_eq_true rfl) dX3_mark_33 ⟨(Nat.le_of_ble_eq_true rfl), (Nat.le_of_ble_eq_true rfl)⟩ hno hlocks (Nat.le_of_ble_eq_true rfl) (Nat.le_of_ble_eq_true rfl) (fun X h => Or.inr (Or.inr ⟨by unfold k_mark; rw [hT9, nI_clamp (by omega)]; simp only [if_true]; rw [if_neg (by omega), h.2]; rfl, h.1⟩)) (fun hC => ?_)
    have hA9 := hC
    refine lv_iload_n hx hb dX3_mark_36 rfl (lv_at hl 4 rfl) ?_
    refine wx_S (rest := []) hx hb hml hown hG hN hX hP (cX3_needTime_x hls _) (cwS 1 hG (gS g_210 g_211 g_1 g_212) rfl rfl rfl (by decide +kernel) ⟨(Nat.le_of_ble_eq_true rfl), (Nat.le_of_ble_eq_true rfl)⟩) rfl hl.1 rfl (Nat.le_of_ble_eq_true rfl) dX3_mark_37 ⟨(Nat.le_of_ble_eq_true rfl), (Nat.le_of_ble_eq_true rfl)⟩ hno hlocks (Nat.le_of_ble_eq_true rfl) (Nat.le_of_ble_eq_true rfl) (fun X h => Or.inr (Or.inr ⟨by unfold k_mark; rw [hT9, nI_clamp (by omega)]; simp only [if_true]; rw [if_neg (by omega), h.2, Bool.and_false]; rfl, h.1⟩)) (fun hC => ?_)
    have hB9 := hC
    refine lv_aload hx hb dX3_mark_40 (lv_at hl 0 rfl) ?_
    refine lv_iload_n hx hb dX3_mark_42 rfl (lv_at hl 3 rfl) ?_
    refine lv_iload_n hx hb dX3_mark_43 rfl (lv_at hl 4 rfl) ?_
    refine wn_rV (rest := []) hx hb hml hown hG hN hP (cX1_canFollow_r (by omega) (hmk t ht) hT0 hT1 hT2 a b) (cwV 2 hG (gV g_230 g_231 g_232 g_3 g_233) rfl rfl rfl (by decide +kernel) ⟨Nat.le_of_ble_eq_true rfl, Nat.le_of_ble_eq_true rfl⟩) (by omega) hT0 rfl rfl hl.1 rfl (Nat.le_of_ble_eq_true rfl) dX3_mark_44 ⟨Nat.le_of_ble_eq_true rfl, Nat.le_of_ble_eq_true rfl⟩ ?_
    refine lv_if_ne (tgt := 60) hx hb dX3_mark_47 (by decide) (fun c47 => ?_) (fun c47 => ?_)
    · have n47 : (c_fol S t a b) = true := bI_1.mp c47
      refine lv_aload hx hb dX3_mark_60 (lv_at hl 0 rfl) ?_
      refine lv_iload_n hx hb dX3_mark_62 rfl (lv_at hl 3 rfl) ?_
      refine lv_iload_n hx hb dX3_mark_63 rfl (lv_at hl 4 rfl) ?_
      refine wn_wV (rest := []) hx hb hml hown hG hN hP hS (cX1_addMark_w hAd (by omega) (hmk t ht) hT0 hT1 hT2 (by omega) a b) (cwV 2 hG (gV g_235 g_236 g_237 g_3 g_238) rfl rfl rfl (by decide +kernel) ⟨Nat.le_of_ble_eq_true rfl, Nat.le_of_ble_eq_true rfl⟩) (by omega) hT0 rfl rfl hl.1 rfl (Nat.le_of_ble_eq_true rfl) dX3_mark_64 ⟨Nat.le_of_ble_eq_true rfl, Nat.le_of_ble_eq_true rfl⟩ (fun F1 H locs hFF hP hS => ?_)
      obtain ⟨f0, f1, f2, fF⟩ := hFF
      have hR : Rep cA adr (uT S t (c_mk S t + 1) (c_lf S t) (upd (c_ow S t) (c_mk S t) a) (upd (c_re S t) (c_mk S t) b)) F1 := rep_uT hR ht f0 f1 f2 fF (by omega) (hlf t ht)
      have h30 : ∀ j, 30 ≤ j → F1 j = E j := fun j hj => (fF j (by omega) (by omega) (by omega)).trans (h30 j hj)
      obtain ⟨S1, hS1⟩ : ∃ z9, z9 = uT S t (c_mk S t + 1) (c_lf S t) (upd (c_ow S t) (c_mk S t) a) (upd (c_re S t) (c_mk S t) b) := ⟨_, rfl⟩
      rw [← hS1] at hR
      obtain ⟨hE0, hE1, hE2, hK0, hK1, hK2, hK3, hK4, ⟨hdv, hE8⟩, hDk, hTl, hct, hnm, htd, hmk, hlf⟩ := id hR
      obtain ⟨hT0, hT1, hT2⟩ := hTl t ht
      refine lv_aload hx hb dX3_mark_67 (lv_at hl 0 rfl) ?_
      refine va_get (D := D) (ci := 1) (v := .int (nI (c_mk S1 t))) (C := RX1) (T := TX1) (N := 4) hx hb hG inG_X1 hown hK hP (15 + 3 * t) (wl_at (by omega) hT0) rfl 2 (by decide) (hG _ g_63) (fun _ h9 => h9) rfl dX3_mark_69 ?_
      refine W.widen (k := 4) (n := 24) (Nat.le_of_ble_eq_true rfl) (Nat.le_of_ble_eq_true rfl) ?_
      exact vx_ret (W.iret (v := nI (c_mk S1 t)) hx hb hr (fun u9 ht _ => ⟨congrArg (fun z => Outcome.returned (some (Value.int z))) (by unfold r_mark; rw [hS1, uT_mk, upN_self, nI_clamp (by omega)]), by unfold k_mark; rw [hT9, nI_clamp (by omega)]; simp only [if_true]; rw [if_neg (by omega), hA9, hB9, show c_fol S t a b = true from n47]; rfl, F1, (by unfold s_mark; rw [nI_clamp (by omega), ← hS1]; exact hR), h30, by rw [ht]; exact hP, hS.F ht⟩) hS.2.2 dX3_mark_72)
    · have n47 : (c_fol S t a b) = false := bI_0.mp c47
      exact th_IAE hx hb hls hown hG hN hX (hl.1.trans hml.symm) 3 rfl dX3_mark_50 dX3_mark_53 dX3_mark_54 dX3_mark_56 dX3_mark_59 hno (Nat.le_of_ble_eq_true rfl) (Nat.le_of_ble_eq_true rfl) (Nat.le_of_ble_eq_true rfl) (Nat.le_of_ble_eq_true rfl) hlocks (Or.inr (Or.inr ⟨by unfold k_mark; rw [hT9, nI_clamp (by omega)]; simp only [if_true]; rw [if_neg (by omega), show c_fol S t a b = false from n47, Bool.and_false]; rfl, rfl⟩)) (Nat.le_of_ble_eq_true rfl) (Nat.le_of_ble_eq_true rfl)
  · have n19 : ¬ (c_mk S t) < 6 := fun h => c19 ((nI_ltI (a := (c_mk S t)) (b := 6) (by omega) (by omega)).mpr h)
    exact th_ISE hx hb hls hown hG hN hX (hl.1.trans hml.symm) 1 rfl dX3_mark_22 dX3_mark_25 dX3_mark_26 dX3_mark_28 dX3_mark_31 hno (Nat.le_of_ble_eq_true rfl) (Nat.le_of_ble_eq_true rfl) (Nat.le_of_ble_eq_true rfl) (Nat.le_of_ble_eq_true rfl) hlocks (Or.inr (Or.inl ⟨by unfold k_mark; rw [hT9, nI_clamp (by omega)]; simp only [if_true]; rw [if_pos (by omega)], rfl⟩)) (Nat.le_of_ble_eq_true rfl) (Nat.le_of_ble_eq_true rfl)

set_option maxHeartbeats 4000000 in
set_option maxRecDepth 100000 in
theorem cX3_batch_x {l : Launch} {D : va_G} {cA : Nat → ClassId} {adr : Nat → Nat} {n : Nat} {E : Nat → va_E} {sa : Nat → Nat} {lo : Nat} (hls : l.stackTraces = false) (hAd : wd_ad lo n adr) {S : CS} (hn : 30 ≤ n) (hR : Rep cA adr S E) (dd : Int32) (on : Bool) : vx_Met l yX3_batch (.code yX3_batch cX3_batch 4 (some .int) :: lw_G) ({ frames := 7, cells := 2, slots := 12, locals := 102 } : Room) (va_Pc [.ref (adr 0), .int dd, .int (bI on)] (wdX D (kty cA) sa lo adr n E)) (pq D cA lo adr n E (k_bat S dd on = 0) (r_bat S dd on) (s_bat S dd on)) (xT (fun X => (k_bat S dd on = 1 ∧ X = nIOB) ∨ (k_bat S dd on = 2 ∧ X = nISE))) 2 12 (fun q => lo ≤ q) := by
  refine vx_ofW (cc := cX3_batch) (maxL := 4) (ret := (some .int)) (by decide) rfl ?_
  intro p e s m args below meth c s₁ B hml hno hv
  obtain ⟨rfl, hP, hN, hX⟩ := hv
  have hx := B.exec
  have hb := B.bytes
  have hr := B.returns
  have hG : ∀ w ∈ lw_G, w.before _ s = true := fun w h => atoms_spec (ws := _ :: lw_G) B.pre w (List.mem_cons_of_mem _ h)
  have hown : s.vm.findClass RX3 = some m.cls := findClass_of_methodNamed B.named
  have hlocks := B.notSynchronized
  have hK := hN.1
  have hS : va_S (fun q => lo ≤ q) s.heap s.heap [] := va_S.rf
  have hl := lv_entry ([.ref (adr 0), .int dd, .int (bI on)]) (n := 4) (Nat.le_of_ble_eq_true rfl)
  rw [lg_entry_eq]
  generalize (lg_sl ([.ref (adr 0), .int dd, .int (bI on)]) ++ List.replicate (4 - (lg_sl ([.ref (adr 0), .int dd, .int (bI on)])).length) Slot.unset).toArray = ls at hl ⊢
  have hl : lv_has ls 4 [(0, .ref (adr 0)), (1, .int dd), (2, .int (bI on))] := hl
  obtain ⟨hE0, hE1, hE2, hK0, hK1, hK2, hK3, hK4, ⟨hdv, hE8⟩, hDk, hTl, hct, hnm, htd, hmk, hlf⟩ := id hR
  have h30 : ∀ j, 30 ≤ j → E j = E j := fun _ _ => rfl
  refine lv_iload_n hx hb dX3_batch_0 rfl (lv_at hl 1 rfl) ?_
  refine wx_S (rest := []) hx hb hml hown hG hN hX hP (cX3_needDesk_x hls _) (cwS 1 hG (gS g_266 g_267 g_1 g_268) rfl rfl rfl (by decide +kernel) ⟨(Nat.le_of_ble_eq_true rfl), (Nat.le_of_ble_eq_true rfl)⟩) rfl hl.1 rfl (Nat.le_of_ble_eq_true rfl) dX3_batch_1 ⟨(Nat.le_of_ble_eq_true rfl), (Nat.le_of_ble_eq_true rfl)⟩ hno hlocks (Nat.le_of_ble_eq_true rfl) (Nat.le_of_ble_eq_true rfl) (fun X h => Or.inl ⟨by unfold k_bat; rw [h.2]; rfl, h.1⟩) (fun hC => ?_)
  have hD9 := hC
  obtain ⟨d, hd, rfl⟩ := inN_of hC (by decide)
  obtain ⟨hD0, hD1⟩ := hDk d hd
  refine lv_aload_n hx hb dX3_batch_4 rfl (lv_at hl 0 rfl) ?_
  refine va_get (D := D) (ci := 3) (v := .ref (adr 2)) (C := RX3) (T := TX3) (N := 4) hx hb hG inG_X3 hown hK hP 0 (wl_at (by omega) hE0) rfl 1 (by decide) (hG _ g_100) (fun _ h9 => h9) rfl dX3_batch_5 ?_
  refine lv_iload_n hx hb dX3_batch_8 rfl (lv_at hl 1 rfl) ?_
  refine wn_ald (j := d) (g := fun j => 9 + 2 * j) hx hb hK hP 3 (by omega) hE2 rfl (by omega) (by decide) dX3_batch_9 ?_
  refine lv_astore_n (lv' := [(3, .ref (adr (9 + 2 * d))), (0, .ref (adr 0)), (1, .int (nI d)), (2, .int (bI on))]) hx hb dX3_batch_10 rfl hl (by decide) rfl (fun ls hl => ?_)
  refine lv_aload_n hx hb dX3_batch_11 rfl (lv_at hl 0 rfl) ?_
  refine va_get (D := D) (ci := 0) (v := .int (bI (c_ib S d))) (C := RX0) (T := TX0) (N := 5) hx hb hG inG_X0 hown hK hP (9 + 2 * d) (wl_at (by omega) hD0) rfl 4 (by decide) (hG _ g_87) (fun _ h9 => h9) rfl dX3_batch_12 ?_
  refine lv_iload_n hx hb dX3_batch_15 rfl (lv_at hl 3 rfl) ?_
  refine lv_icmp_ne (tgt := 29) hx hb dX3_batch_16 (by decide) (fun c16 => ?_) (fun c16 => ?_)
  · have e16 : ¬ c_ib S d = on := fun h => c16 (by rw [h])
    refine lv_iload_n hx hb dX3_batch_29 rfl (lv_at hl 3 rfl) ?_
    refine lv_if_eq (tgt := 41) hx hb dX3_batch_30 (by decide) (fun c30 => ?_) (fun c30 => ?_)
    · have n30 : on = false := bI_0.mp c30
      refine lv_aload_n hx hb dX3_batch_41 rfl (lv_at hl 0 rfl) ?_
      refine wn_wV (rest := []) hx hb hml hown hG hN hP hS (cX0_endBatch_w hAd (by omega) hD0 hD1) (cwV 0 hG (gV g_355 g_356 g_357 g_4 g_358) rfl rfl rfl (by decide +kernel) ⟨Nat.le_of_ble_eq_true rfl, Nat.le_of_ble_eq_true rfl⟩) (by omega) hD0 rfl rfl hl.1 rfl (Nat.le_of_ble_eq_true rfl) dX3_batch_42 ⟨Nat.le_of_ble_eq_true rfl, Nat.le_of_ble_eq_true rfl⟩ (fun F1 H locs hFF hP hS => ?_)
      obtain ⟨f0, f1, fF⟩ := hFF
      have hR : Rep cA adr (eb S d) F1 := rep_uD hR hd f0 f1 fF
      have h30 : ∀ j, 30 ≤ j → F1 j = E j := fun j hj => (fF j (by omega) (by omega)).trans (h30 j hj)
      obtain ⟨S1, hS1⟩ : ∃ z9, z9 = eb S d := ⟨_, rfl⟩
      rw [← hS1] at hR
      obtain ⟨hE0, hE1, hE2, hK0, hK1, hK2, hK3, hK4, ⟨hdv, hE8⟩, hDk, hTl, hct, hnm, htd, hmk, hlf⟩ := id hR
      obtain ⟨hD0, hD1⟩ := hDk d hd
      refine lv_aload_n hx hb dX3_batch_45 rfl (lv_at hl 0 rfl) ?_
      refine va_get (D := D) (ci := 0) (v := .int (c_mt S1 d)) (C := RX0) (T := TX0) (N := 5) hx hb hG inG_X0 hown hK hP (9 + 2 * d) (wl_at (by omega) hD0) rfl 1 (by decide) (hG _ g_81) (fun _ h9 => h9) rfl dX3_batch_46 ?_
      refine W.widen (k := 2) (n := 12) (Nat.le_of_ble_eq_true rfl) (Nat.le_of_ble_eq_true rfl) ?_
      exact vx_ret (W.iret (v := c_mt S1 d) hx hb hr (fun u9 ht _ => ⟨congrArg (fun z => Outcome.returned (some (Value.int z))) (by unfold r_bat s_bat; rw [nI_clamp (by omega), n30, hS1]; rfl), by unfold k_bat; rw [hD9, nI_clamp (by omega)]; simp only [if_true]; rw [if_neg e16], F1, (by unfold s_bat; rw [nI_clamp (by omega), n30]; rw [hS1] at hR; exact hR), h30, by rw [ht]; exact hP, hS.F ht⟩) hS.2.2 dX3_batch_49)
    · have n30 : on = true := bI_1.mp c30
      refine lv_aload_n hx hb dX3_batch_33 rfl (lv_at hl 0 rfl) ?_
      refine lv_iconst (v := 1) hx hb dX3_batch_34 (by decide) ?_
      have hF : ∀ j, j ≠ 9 + 2 * d → E j = E j := fun j _ => rfl
      refine lv_topi (fun y9 e9 => ?_)
      have e9 : y9 = bI true := e9.trans (bI_t.symm)
      subst e9
      refine wd_put (ci := 0) (C := RX0) (T := TX0) (N := 5) (v := .int (bI true)) (ty := .boolean) hx hb hG inG_X0 tyX0 tyX0_ok nmX0 hown hK hAd hP hS (k0 := 9 + 2 * d) (by omega) hD0 rfl 4 (by decide) (hG _ g_87) (fun _ h9 => h9) rfl (by decide +kernel) (bI_nar _) (bI_fit _) (Nat.le_of_ble_eq_true rfl) dX3_batch_35 (fun H locs hP hS => ?_)
      obtain ⟨E2x, hE2x⟩ : ∃ z, z = va_up E (9 + 2 * d) (.inr (0, [.ref (adr (9 + 2 * d + 1)), .int (c_mt S d), .int (c_sn S d), .int (c_wt S d), .int (bI true)])) := ⟨_, rfl⟩
      have hP : va_P D kcl (wl adr n E2x) H := by rw [hE2x]; exact hP
      have hE0 := (show E2x 0 = E 0 from by rw [hE2x, va_up_ne _ _ (by omega)]).trans hE0
      have hE1 := (show E2x 1 = E 1 from by rw [hE2x, va_up_ne _ _ (by omega)]).trans hE1
      have hE2 := (show E2x 2 = E 2 from by rw [hE2x, va_up_ne _ _ (by omega)]).trans hE2
      have hK0 := (show E2x 3 = E 3 from by rw [hE2x, va_up_ne _ _ (by omega)]).trans hK0
      have hK1 := (show E2x (3 + 1) = E (3 + 1) from by rw [hE2x, va_up_ne _ _ (by omega)]).trans hK1
      have hK2 := (show E2x (3 + 2) = E (3 + 2) from by rw [hE2x, va_up_ne _ _ (by omega)]).trans hK2
      have hK3 := (show E2x (3 + 3) = E (3 + 3) from by rw [hE2x, va_up_ne _ _ (by omega)]).trans hK3
      have hK4 := (show E2x (3 + 4) = E (3 + 4) from by rw [hE2x, va_up_ne _ _ (by omega)]).trans hK4
      have hD0 : E2x (9 + 2 * d) = .inr (0, [.ref (adr (9 + 2 * d + 1)), .int (c_mt S d), .int (c_sn S d), .int (c_wt S d), .int (bI true)]) := by rw [hE2x, va_up_self]
      have hD1 := (show E2x (9 + 2 * d + 1) = E (9 + 2 * d + 1) from by rw [hE2x, va_up_ne _ _ (by omega)]).trans hD1
      have hF : ∀ j, j ≠ 9 + 2 * d → E2x j = E j := fun j z0 => (show E2x j = E j from by rw [hE2x, va_up_ne _ _ z0]).trans (hF j z0)
      have fF : ∀ j, j ≠ 9 + 2 * d → j ≠ 9 + 2 * d + 1 → E2x j = E j := fun j z0 _ => hF j z0
      have hR : Rep cA adr (uD S d (c_mo S d) (c_mt S d) (c_sn S d) (c_wt S d) true) E2x := rep_uD hR hd hD0 hD1 fF
      have h30 : ∀ j, 30 ≤ j → E2x j = E j := fun j hj => (fF j (by omega) (by omega)).trans (h30 j hj)
      obtain ⟨S1, hS1⟩ : ∃ z9, z9 = uD S d (c_mo S d) (c_mt S d) (c_sn S d) (c_wt S d) true := ⟨_, rfl⟩
      rw [← hS1] at hR
      obtain ⟨hE0, hE1, hE2, hK0, hK1, hK2, hK3, hK4, ⟨hdv, hE8⟩, hDk, hTl, hct, hnm, htd, hmk, hlf⟩ := id hR
      obtain ⟨hD0, hD1⟩ := hDk d hd
      refine lv_goto (tgt := 45) hx hb dX3_batch_38 (by decide) ?_
      refine lv_aload_n hx hb dX3_batch_45 rfl (lv_at hl 0 rfl) ?_
      refine va_get (D := D) (ci := 0) (v := .int (c_mt S1 d)) (C := RX0) (T := TX0) (N := 5) hx hb hG inG_X0 hown hK hP (9 + 2 * d) (wl_at (by omega) hD0) rfl 1 (by decide) (hG _ g_81) (fun _ h9 => h9) rfl dX3_batch_46 ?_
      refine W.widen (k := 2) (n := 12) (Nat.le_of_ble_eq_true rfl) (Nat.le_of_ble_eq_true rfl) ?_
      exact vx_ret (W.iret (v := c_mt S1 d) hx hb hr (fun u9 ht _ => ⟨congrArg (fun z => Outcome.returned (some (Value.int z))) (by unfold r_bat s_bat; rw [nI_clamp (by omega), n30, hS1]; rfl), by unfold k_bat; rw [hD9, nI_clamp (by omega)]; simp only [if_true]; rw [if_neg e16], E2x, (by unfold s_bat; rw [nI_clamp (by omega), n30]; rw [hS1] at hR; exact hR), h30, by rw [ht]; exact hP, hS.F ht⟩) hS.2.2 dX3_batch_49)
  · have e16 : c_ib S d = on := bI_inj c16
    exact th_ISE hx hb hls hown hG hN hX (hl.1.trans hml.symm) 10 rfl dX3_batch_19 dX3_batch_22 dX3_batch_23 dX3_batch_25 dX3_batch_28 hno (Nat.le_of_ble_eq_true rfl) (Nat.le_of_ble_eq_true rfl) (Nat.le_of_ble_eq_true rfl) (Nat.le_of_ble_eq_true rfl) hlocks (Or.inr ⟨by unfold k_bat; rw [hD9, nI_clamp (by omega)]; simp only [if_true]; rw [if_pos e16], rfl⟩) (Nat.le_of_ble_eq_true rfl) (Nat.le_of_ble_eq_true rfl)

set_option maxHeartbeats 4000000 in
set_option maxRecDepth 100000 in
theorem cX3_settle_x {l : Launch} {D : va_G} {cA : Nat → ClassId} {adr : Nat → Nat} {n : Nat} {E : Nat → va_E} {sa : Nat → Nat} {lo : Nat} (hls : l.stackTraces = false) (hAd : wd_ad lo n adr) {S : CS} (hn : 30 ≤ n) (hR : Rep cA adr S E) (x kk : Int32) : vx_Met l yX3_settle (.code yX3_settle cX3_settle 4 (some .int) :: lw_G) ({ frames := 8, cells := 3, slots := 18, locals := 122 } : Room) (va_Pc [.ref (adr 0), .int x, .int kk] (wdX D (kty cA) sa lo adr n E)) (pq D cA lo adr n E (k_set S x kk = 0) (r_set S x kk) (s_set S x kk)) (xT (fun X => k_set S x kk = 1 ∧ X = nIOB)) 3 18 (fun q => lo ≤ q) := by
  refine vx_ofW (cc := cX3_settle) (maxL := 4) (ret := (some .int)) (by decide) rfl ?_
  intro p e s m args below meth c s₁ B hml hno hv
  obtain ⟨rfl, hP, hN, hX⟩ := hv
  have hx := B.exec
  have hb := B.bytes
  have hr := B.returns
  have hG : ∀ w ∈ lw_G, w.before _ s = true := fun w h => atoms_spec (ws := _ :: lw_G) B.pre w (List.mem_cons_of_mem _ h)
  have hown : s.vm.findClass RX3 = some m.cls := findClass_of_methodNamed B.named
  have hlocks := B.notSynchronized
  have hK := hN.1
  have hS : va_S (fun q => lo ≤ q) s.heap s.heap [] := va_S.rf
  have hl := lv_entry ([.ref (adr 0), .int x, .int kk]) (n := 4) (Nat.le_of_ble_eq_true rfl)
  rw [lg_entry_eq]
  generalize (lg_sl ([.ref (adr 0), .int x, .int kk]) ++ List.replicate (4 - (lg_sl ([.ref (adr 0), .int x, .int kk])).length) Slot.unset).toArray = ls at hl ⊢
  have hl : lv_has ls 4 [(0, .ref (adr 0)), (1, .int x), (2, .int kk)] := hl
  obtain ⟨hE0, hE1, hE2, hK0, hK1, hK2, hK3, hK4, ⟨hdv, hE8⟩, hDk, hTl, hct, hnm, htd, hmk, hlf⟩ := id hR
  have h30 : ∀ j, 30 ≤ j → E j = E j := fun _ _ => rfl
  refine lv_iload_n hx hb dX3_settle_0 rfl (lv_at hl 1 rfl) ?_
  refine wx_S (rest := []) hx hb hml hown hG hN hX hP (cX3_needName_x hls _) (cwS 1 hG (gS g_384 g_385 g_1 g_386) rfl rfl rfl (by decide +kernel) ⟨(Nat.le_of_ble_eq_true rfl), (Nat.le_of_ble_eq_true rfl)⟩) rfl hl.1 rfl (Nat.le_of_ble_eq_true rfl) dX3_settle_1 ⟨(Nat.le_of_ble_eq_true rfl), (Nat.le_of_ble_eq_true rfl)⟩ hno hlocks (Nat.le_of_ble_eq_true rfl) (Nat.le_of_ble_eq_true rfl) (fun X h => ⟨by unfold k_set; rw [h.2]; rfl, h.1⟩) (fun hC => ?_)
  have hNm := hC
  obtain ⟨a, ha, rfl⟩ := inN_of (Bool.and_eq_true_iff.mp hC).1 (by decide)
  refine lv_iload_n hx hb dX3_settle_4 rfl (lv_at hl 2 rfl) ?_
  refine lv_if_ge (tgt := 18) hx hb dX3_settle_5 (by decide) (fun c5 => ?_) (fun c5 => ?_)
  · obtain ⟨q, hq, rfl⟩ := nI_of (x := kk) (Int32.not_lt.mpr c5)
    refine lv_aload_n hx hb dX3_settle_18 rfl (lv_at hl 0 rfl) ?_
    refine va_get (D := D) (ci := 3) (v := .ref (adr 3)) (C := RX3) (T := TX3) (N := 4) hx hb hG inG_X3 hown hK hP 0 (wl_at (by omega) hE0) rfl 2 (by decide) (hG _ g_101) (fun _ h9 => h9) rfl dX3_settle_19 ?_
    refine lv_iload_n hx hb dX3_settle_22 rfl (lv_at hl 1 rfl) ?_
    refine lv_iload_n hx hb dX3_settle_23 rfl (lv_at hl 2 rfl) ?_
    refine wn_rV (rest := []) hx hb hml hown hG hN hP (cX2_findKth_r (by omega) hct hK0 hK1 hK2 hK3 hK4 hnm htd (a := a) (q := q) (by omega) (by omega)) (cwV 2 hG (gV g_388 g_389 g_390 g_2 g_391) rfl rfl rfl (by decide +kernel) ⟨Nat.le_of_ble_eq_true rfl, Nat.le_of_ble_eq_true rfl⟩) (by omega) hK0 rfl rfl hl.1 rfl (Nat.le_of_ble_eq_true rfl) dX3_settle_24 ⟨Nat.le_of_ble_eq_true rfl, Nat.le_of_ble_eq_true rfl⟩ ?_
    refine lv_istore_n (lv' := [(3, .int (oI (kth S a q))), (0, .ref (adr 0)), (1, .int (nI a)), (2, .int (nI q))]) hx hb dX3_settle_27 rfl hl (by decide) rfl (fun ls hl => ?_)
    refine lv_iload_n hx hb dX3_settle_28 rfl (lv_at hl 0 rfl) ?_
    refine lv_iconst (v := (-1)) hx hb dX3_settle_29 (by decide) ?_
    refine lv_icmp_ne (tgt := 43) hx hb dX3_settle_30 (by decide) (fun c30 => ?_) (fun c30 => ?_)
    · obtain ⟨z, hz⟩ := oI_ne c30
      have hz : kth S a q = some z := hz
      have bz := (fiB_spec hz).1
      rw [hz] at hl
      refine lv_aload_n hx hb dX3_settle_43 rfl (lv_at hl 1 rfl) ?_
      refine va_get (D := D) (ci := 3) (v := .ref (adr 3)) (C := RX3) (T := TX3) (N := 4) hx hb hG inG_X3 hown hK hP 0 (wl_at (by omega) hE0) rfl 2 (by decide) (hG _ g_101) (fun _ h9 => h9) rfl dX3_settle_44 ?_
      refine lv_iload_n hx hb dX3_settle_47 rfl (lv_at hl 0 rfl) ?_
      refine wn_wV (rest := []) hx hb hml hown hG hN hP hS (cX2_settleOn_w hAd (by omega) hct hK0 hK1 hK2 hK3 hK4 hnm htd (i := z) (by omega)) (cwV 1 hG (gV g_393 g_394 g_395 g_2 g_396) rfl rfl rfl (by decide +kernel) ⟨Nat.le_of_ble_eq_true rfl, Nat.le_of_ble_eq_true rfl⟩) (by omega) hK0 rfl rfl hl.1 rfl (Nat.le_of_ble_eq_true rfl) dX3_settle_48 ⟨Nat.le_of_ble_eq_true rfl, Nat.le_of_ble_eq_true rfl⟩ (fun F1 H locs hFF hP hS => ?_)
      obtain ⟨f4, fF⟩ := hFF
      have fG := fF
      have fF : ∀ j, j ≠ 3 → j ≠ 3 + 1 → j ≠ 3 + 2 → j ≠ 3 + 3 → j ≠ 3 + 4 → F1 j = E j := fun j _ _ _ _ z4 => fG j z4
      have hR : Rep cA adr (uK S (c_ct S) (c_nm S) (c_td S) (c_vl S) (fun j => if j < c_ct S ∧ c_nm S j = c_nm S z then decide (j = z) else c_sd S j)) F1 := rep_uK hR ((fG 3 (by omega)).trans hK0) ((fG (3 + 1) (by omega)).trans hK1) ((fG (3 + 2) (by omega)).trans hK2) ((fG (3 + 3) (by omega)).trans hK3) f4 fF hct hnm htd
      have h30 : ∀ j, 30 ≤ j → F1 j = E j := fun j hj => (fF j (by omega) (by omega) (by omega) (by omega) (by omega)).trans (h30 j hj)
      obtain ⟨S1, hS1⟩ : ∃ z9, z9 = uK S (c_ct S) (c_nm S) (c_td S) (c_vl S) (fun j => if j < c_ct S ∧ c_nm S j = c_nm S z then decide (j = z) else c_sd S j) := ⟨_, rfl⟩
      rw [← hS1] at hR
      obtain ⟨hE0, hE1, hE2, hK0, hK1, hK2, hK3, hK4, ⟨hdv, hE8⟩, hDk, hTl, hct, hnm, htd, hmk, hlf⟩ := id hR
      refine lv_aload_n hx hb dX3_settle_51 rfl (lv_at hl 1 rfl) ?_
      refine va_get (D := D) (ci := 3) (v := .ref (adr 3)) (C := RX3) (T := TX3) (N := 4) hx hb hG inG_X3 hown hK hP 0 (wl_at (by omega) hE0) rfl 2 (by decide) (hG _ g_101) (fun _ h9 => h9) rfl dX3_settle_52 ?_
      refine va_get (D := D) (ci := 2) (v := .ref (adr (3 + 3))) (C := RX2) (T := TX2) (N := 5) hx hb hG inG_X2 hown hK hP 3 (wl_at (by omega) hK0) rfl 2 (by decide) (hG _ g_37) (fun _ h9 => h9) rfl dX3_settle_55 ?_
      refine lv_iload_n hx hb dX3_settle_58 rfl (lv_at hl 0 rfl) ?_
      refine wn_iald (j := z) hx hb hK hP (by omega) hK3 (by omega) (by decide) dX3_settle_59 ?_
      refine W.widen (k := 3) (n := 18) (Nat.le_of_ble_eq_true rfl) (Nat.le_of_ble_eq_true rfl) ?_
      exact vx_ret (W.iret (v := (c_vl S1) z) hx hb hr (fun u9 ht _ => ⟨congrArg (fun z => Outcome.returned (some (Value.int z))) (by unfold r_set; rw [nI_clamp (by omega), nI_clamp (by omega), hz, hS1]; rfl), by unfold k_set; rw [hNm, decide_eq_true c5, nI_clamp (by omega), nI_clamp (by omega), hz]; rfl, F1, (by unfold s_set; rw [nI_clamp (by omega), nI_clamp (by omega), hz]; rw [hS1] at hR; exact hR), h30, by rw [ht]; exact hP, hS.F ht⟩) hS.2.2 dX3_settle_60)
    · exact th_IOB hx hb hls hown hG hN hX (hl.1.trans hml.symm) 12 rfl dX3_settle_33 dX3_settle_36 dX3_settle_37 dX3_settle_39 dX3_settle_42 hno (Nat.le_of_ble_eq_true rfl) (Nat.le_of_ble_eq_true rfl) (Nat.le_of_ble_eq_true rfl) (Nat.le_of_ble_eq_true rfl) hlocks ⟨by unfold k_set; rw [hNm, decide_eq_true c5, nI_clamp (by omega), nI_clamp (by omega)]; simp only [Bool.and_self, if_true]; rw [if_pos ((oI_n1 (o := kth S a q) (fun z hz => by have := (fiB_spec hz).1; omega)).mp c30)], rfl⟩ (Nat.le_of_ble_eq_true rfl) (Nat.le_of_ble_eq_true rfl)
  · exact th_IOB hx hb hls hown hG hN hX (hl.1.trans hml.symm) 11 rfl dX3_settle_8 dX3_settle_11 dX3_settle_12 dX3_settle_14 dX3_settle_17 hno (Nat.le_of_ble_eq_true rfl) (Nat.le_of_ble_eq_true rfl) (Nat.le_of_ble_eq_true rfl) (Nat.le_of_ble_eq_true rfl) hlocks ⟨by unfold k_set; rw [show decide (0 ≤ kk) = false from by simpa using c5, Bool.and_false]; rfl, rfl⟩ (Nat.le_of_ble_eq_true rfl) (Nat.le_of_ble_eq_true rfl)
