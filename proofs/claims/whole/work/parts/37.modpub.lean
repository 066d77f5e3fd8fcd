set_option maxHeartbeats 4000000 in
set_option maxRecDepth 100000 in
theorem cX4_real_w {l : Launch} {D : va_G} {cA : Nat → ClassId} {adr : Nat → Nat} {n : Nat} {E : Nat → va_E} {lo : Nat} (hAd : wd_ad lo n adr) {S : CS} {th : Int32} (hn : 45 ≤ n) (hV : Inv S) (hR : RepM cA adr S th E) (tt x : Int32) : Met l yX4_real (.code yX4_real cX4_real 3 (some .int) :: lw_G) ({ frames := 2, cells := 0, slots := 0, locals := 43 } : Room) (va_Pc [.ref (adr 30), .int tt, .int x] (wdU D (kty cA) adr n E)) (wq D lo adr n (some (.int (if k_real S tt x = 0 then r_real S tt x else 0))) (fun E2 => RepM cA adr (if k_real S tt x = 0 then S else S) (nI (k_real S tt x)) E2 ∧ ∀ j, j < 30 ∨ 45 ≤ j → E2 j = E j)) 0 0 (fun q => lo ≤ q) := by
  refine Met.ofW (cc := cX4_real) (maxL := 3) (ret := (some .int)) (by decide) rfl ?_
  intro p e s m args below meth c s₁ B hml hv
  obtain ⟨rfl, hP, hN⟩ := hv
  have hx := B.exec
  have hb := B.bytes
  have hr := B.returns
  have hG : ∀ w ∈ lw_G, w.before _ s = true := fun w h => atoms_spec (ws := _ :: lw_G) B.pre w (List.mem_cons_of_mem _ h)
  have hown : s.vm.findClass RX4 = some m.cls := findClass_of_methodNamed B.named
  have hlocks := B.notSynchronized
  have hK := hN.1
  have hS : va_S (fun q => lo ≤ q) s.heap s.heap [] := va_S.rf
  have hF : ∀ j, j ≠ 30 → E j = E j := fun j _ => rfl
  have hl := lv_entry ([.ref (adr 30), .int tt, .int x]) (n := 3) (Nat.le_of_ble_eq_true rfl)
  rw [lg_entry_eq]
  generalize (lg_sl ([.ref (adr 30), .int tt, .int x]) ++ List.replicate (3 - (lg_sl ([.ref (adr 30), .int tt, .int x])).length) Slot.unset).toArray = ls at hl ⊢
  have hl : lv_has ls 3 [(0, .ref (adr 30)), (1, .int tt), (2, .int x)] := hl
  obtain ⟨hM0, hM1, hM2, hM3, hM4, hM5, hM6, hM7, hM8, hM9, hM10, hM11, hM12, hM13, hM14⟩ := id hR
  obtain ⟨hct, hnm, htd, hmk, hlf, hnt, hnu, hcn, hmz, hmm, hib, hmr, hrise⟩ := id hV
  have h45 : ∀ j, j < 30 ∨ 45 ≤ j → E j = E j := fun _ _ => rfl
  refine lv_aload_n hx hb dX4_real_0 rfl (lv_at hl 0 rfl) ?_
  refine lv_iload_n hx hb dX4_real_1 rfl (lv_at hl 1 rfl) ?_
  refine wn_rS (rest := [.ref (adr 30)]) hx hb hml hown hG (cX4_isTeller_r _) (cwS 1 hG (gS g_550 g_551 g_5 g_552) rfl rfl rfl (by decide +kernel) ⟨Nat.le_of_ble_eq_true rfl, Nat.le_of_ble_eq_true rfl⟩) rfl hl.1 rfl (Nat.le_of_ble_eq_true rfl) dX4_real_2 ⟨Nat.le_of_ble_eq_true rfl, Nat.le_of_ble_eq_true rfl⟩ ?_
  refine lv_if_ne (tgt := 12) hx hb dX4_real_5 (by decide) (fun c5 => ?_) (fun c5 => ?_)
  · have n5 : (inN tt 5) = true := bI_1.mp c5
    refine lv_iconst (v := 0) hx hb dX4_real_12 (by decide) ?_
    refine lv_iload_n hx hb dX4_real_13 rfl (lv_at hl 2 rfl) ?_
    refine lv_i2l (v := x.toInt64) hx hb dX4_real_14 rfl ?_
    refine lv_iconst (v := 0) hx hb dX4_real_15 (by decide) ?_
    refine lv_ldc hx hb hown (hG _ g_556) dX4_real_16 ?_
    refine wn_rS (rest := [.int 0, .ref (adr 30)]) hx hb hml hown hG (cX4_in_r _ _ _) (cwS 3 hG (gS g_553 g_554 g_5 g_555) rfl rfl rfl (by decide +kernel) ⟨Nat.le_of_ble_eq_true rfl, Nat.le_of_ble_eq_true rfl⟩) rfl hl.1 rfl (Nat.le_of_ble_eq_true rfl) dX4_real_18 ⟨Nat.le_of_ble_eq_true rfl, Nat.le_of_ble_eq_true rfl⟩ ?_
    refine lv_topi (fun y9 e9 => ?_)
    have e9 : y9 = bI (inN x 1000001) := e9.trans (congrArg bI (inr_N x 1000000 (by decide)))
    subst e9
    refine lv_if_ne (tgt := 28) hx hb dX4_real_21 (by decide) (fun c21 => ?_) (fun c21 => ?_)
    · have n21 : (inN x 1000001) = true := bI_1.mp c21
      refine lv_iconst (v := 0) hx hb dX4_real_28 (by decide) ?_
      refine lv_iconst (v := 0) hx hb dX4_real_29 (by decide) ?_
      refine lv_iconst (v := 0) hx hb dX4_real_30 (by decide) ?_
      refine wn_wV (rest := []) hx hb hml hown hG hN hP hS (cX4_throwing_w hAd hn hV hR false false false false) (cwV 4 hG (gV g_557 g_559 gp_X4_throwing g_5 g_560) rfl rfl rfl (by decide +kernel) ⟨Nat.le_of_ble_eq_true rfl, Nat.le_of_ble_eq_true rfl⟩) (by omega) hM0 rfl rfl hl.1 rfl (Nat.le_of_ble_eq_true rfl) dX4_real_31 ⟨Nat.le_of_ble_eq_true rfl, Nat.le_of_ble_eq_true rfl⟩ (fun F1 H locs hFF hP hS => ?_)
      obtain ⟨hR, fF⟩ := hFF
      have h45 : ∀ j, j < 30 ∨ 45 ≤ j → F1 j = E j := fun j hj => (fF j (by omega)).trans (h45 j hj)
      obtain ⟨hM0, hM1, hM2, hM3, hM4, hM5, hM6, hM7, hM8, hM9, hM10, hM11, hM12, hM13, hM14⟩ := id hR
      refine lv_if_eq (tgt := 39) hx hb dX4_real_34 (by decide) (fun c34 => ?_) (fun c34 => absurd (by decide) c34)
      obtain ⟨t, ht, rfl⟩ := inN_of n5 (by decide)
      refine lv_aload_n hx hb dX4_real_39 rfl (lv_at hl 0 rfl) ?_
      refine lv_iload_n hx hb dX4_real_40 rfl (lv_at hl 1 rfl) ?_
      refine lv_iload_n hx hb dX4_real_41 rfl (lv_at hl 2 rfl) ?_
      refine wn_rV (rest := []) hx hb hml hown hG hN hP (cX4_realOf_r hn hV hR (t := t) (by omega) x) (cwV 2 hG (gV g_565 g_567 gp_X4_realOf g_5 g_568) rfl rfl rfl (by decide +kernel) ⟨Nat.le_of_ble_eq_true rfl, Nat.le_of_ble_eq_true rfl⟩) (by omega) hM0 rfl rfl hl.1 rfl (Nat.le_of_ble_eq_true rfl) dX4_real_42 ⟨Nat.le_of_ble_eq_true rfl, Nat.le_of_ble_eq_true rfl⟩ ?_
      have hk : k_real S (nI t) x = 0 := by unfold k_real; rw [n5, n21]; rfl
      exact W.iret (v := rt (c_mk S t) (c_ow S t) (c_re S t) x) hx hb hr (fun u9 ht _ => ⟨(by rw [hk, if_pos rfl]; exact congrArg (fun z => Outcome.returned (some (Value.int z))) (by unfold r_real; rw [nI_clamp (by omega)])), F1, ⟨by rw [hk]; exact hR, h45⟩, by rw [ht]; exact hP, hS.F ht⟩) hS.2.2 dX4_real_45
    · have n21 : (inN x 1000001) = false := bI_0.mp c21
      refine lv_iconst (v := 1) hx hb dX4_real_24 (by decide) ?_
      refine lv_goto (tgt := 29) hx hb dX4_real_25 (by decide) ?_
      refine lv_iconst (v := 0) hx hb dX4_real_29 (by decide) ?_
      refine lv_iconst (v := 0) hx hb dX4_real_30 (by decide) ?_
      refine wn_wV (rest := []) hx hb hml hown hG hN hP hS (cX4_throwing_w hAd hn hV hR false true false false) (cwV 4 hG (gV g_557 g_559 gp_X4_throwing g_5 g_560) rfl rfl rfl (by decide +kernel) ⟨Nat.le_of_ble_eq_true rfl, Nat.le_of_ble_eq_true rfl⟩) (by omega) hM0 rfl rfl hl.1 rfl (Nat.le_of_ble_eq_true rfl) dX4_real_31 ⟨Nat.le_of_ble_eq_true rfl, Nat.le_of_ble_eq_true rfl⟩ (fun F2 H locs hFF hP hS => ?_)
      obtain ⟨hR, fF⟩ := hFF
      have h45 : ∀ j, j < 30 ∨ 45 ≤ j → F2 j = E j := fun j hj => (fF j (by omega)).trans (h45 j hj)
      obtain ⟨hM0, hM1, hM2, hM3, hM4, hM5, hM6, hM7, hM8, hM9, hM10, hM11, hM12, hM13, hM14⟩ := id hR
      refine lv_if_eq (tgt := 39) hx hb dX4_real_34 (by decide) (fun c34 => absurd c34 (by decide)) (fun c34 => ?_)
      refine lv_iconst (v := 0) hx hb dX4_real_37 (by decide) ?_
      have hk : k_real S tt x = 2 := by unfold k_real; rw [n5, n21]; rfl
      exact W.iret (v := 0) hx hb hr (fun u9 ht _ => ⟨(by rw [hk]; rfl), F2, ⟨by rw [hk]; exact hR, h45⟩, by rw [ht]; exact hP, hS.F ht⟩) hS.2.2 dX4_real_38
  · have n5 : (inN tt 5) = false := bI_0.mp c5
    refine lv_iconst (v := 1) hx hb dX4_real_8 (by decide) ?_
    refine lv_goto (tgt := 13) hx hb dX4_real_9 (by decide) ?_
    refine lv_iload_n hx hb dX4_real_13 rfl (lv_at hl 2 rfl) ?_
    refine lv_i2l (v := x.toInt64) hx hb dX4_real_14 rfl ?_
    refine lv_iconst (v := 0) hx hb dX4_real_15 (by decide) ?_
    refine lv_ldc hx hb hown (hG _ g_556) dX4_real_16 ?_
    refine wn_rS (rest := [.int 1, .ref (adr 30)]) hx hb hml hown hG (cX4_in_r _ _ _) (cwS 3 hG (gS g_553 g_554 g_5 g_555) rfl rfl rfl (by decide +kernel) ⟨Nat.le_of_ble_eq_true rfl, Nat.le_of_ble_eq_true rfl⟩) rfl hl.1 rfl (Nat.le_of_ble_eq_true rfl) dX4_real_18 ⟨Nat.le_of_ble_eq_true rfl, Nat.le_of_ble_eq_true rfl⟩ ?_
    refine lv_topi (fun y9 e9 => ?_)
    have e9 : y9 = bI (inN x 1000001) := e9.trans (congrArg bI (inr_N x 1000000 (by decide)))
    subst e9
    refine lv_if_ne (tgt := 28) hx hb dX4_real_21 (by decide) (fun c21 => ?_) (fun c21 => ?_)
    · have n21 : (inN x 1000001) = true := bI_1.mp c21
      refine lv_iconst (v := 0) hx hb dX4_real_28 (by decide) ?_
      refine lv_iconst (v := 0) hx hb dX4_real_29 (by decide) ?_
      refine lv_iconst (v := 0) hx hb dX4_real_30 (by decide) ?_
      refine wn_wV (rest := []) hx hb hml hown hG hN hP hS (cX4_throwing_w hAd hn hV hR true false false false) (cwV 4 hG (gV g_557 g_559 gp_X4_throwing g_5 g_560) rfl rfl rfl (by decide +kernel) ⟨Nat.le_of_ble_eq_true rfl, Nat.le_of_ble_eq_true rfl⟩) (by omega) hM0 rfl rfl hl.1 rfl (Nat.le_of_ble_eq_true rfl) dX4_real_31 ⟨Nat.le_of_ble_eq_true rfl, Nat.le_of_ble_eq_true rfl⟩ (fun F3 H locs hFF hP hS => ?_)
      obtain ⟨hR, fF⟩ := hFF
      have h45 : ∀ j, j < 30 ∨ 45 ≤ j → F3 j = E j := fun j hj => (fF j (by omega)).trans (h45 j hj)
      obtain ⟨hM0, hM1, hM2, hM3, hM4, hM5, hM6, hM7, hM8, hM9, hM10, hM11, hM12, hM13, hM14⟩ := id hR
      refine lv_if_eq (tgt := 39) hx hb dX4_real_34 (by decide) (fun c34 => absurd c34 (by decide)) (fun c34 => ?_)
      refine lv_iconst (v := 0) hx hb dX4_real_37 (by decide) ?_
      have hk : k_real S tt x = 1 := by unfold k_real; rw [n5]; rfl
      exact W.iret (v := 0) hx hb hr (fun u9 ht _ => ⟨(by rw [hk]; rfl), F3, ⟨by rw [hk]; exact hR, h45⟩, by rw [ht]; exact hP, hS.F ht⟩) hS.2.2 dX4_real_38
    · have n21 : (inN x 1000001) = false := bI_0.mp c21
      refine lv_iconst (v := 1) hx hb dX4_real_24 (by decide) ?_
      refine lv_goto (tgt := 29) hx hb dX4_real_25 (by decide) ?_
      refine lv_iconst (v := 0) hx hb dX4_real_29 (by decide) ?_
      refine lv_iconst (v := 0) hx hb dX4_real_30 (by decide) ?_
      refine wn_wV (rest := []) hx hb hml hown hG hN hP hS (cX4_throwing_w hAd hn hV hR true true false false) (cwV 4 hG (gV g_557 g_559 gp_X4_throwing g_5 g_560) rfl rfl rfl (by decide +kernel) ⟨Nat.le_of_ble_eq_true rfl, Nat.le_of_ble_eq_true rfl⟩) (by omega) hM0 rfl rfl hl.1 rfl (Nat.le_of_ble_eq_true rfl) dX4_real_31 ⟨Nat.le_of_ble_eq_true rfl, Nat.le_of_ble_eq_true rfl⟩ (fun F4 H locs hFF hP hS => ?_)
      obtain ⟨hR, fF⟩ := hFF
      have h45 : ∀ j, j < 30 ∨ 45 ≤ j → F4 j = E j := fun j hj => (fF j (by omega)).trans (h45 j hj)
      obtain ⟨hM0, hM1, hM2, hM3, hM4, hM5, hM6, hM7, hM8, hM9, hM10, hM11, hM12, hM13, hM14⟩ := id hR
      refine lv_if_eq (tgt := 39) hx hb dX4_real_34 (by decide) (fun c34 => absurd c34 (by decide)) (fun c34 => ?_)
      refine lv_iconst (v := 0) hx hb dX4_real_37 (by decide) ?_
      have hk : k_real S tt x = 1 := by unfold k_real; rw [n5]; rfl
      exact W.iret (v := 0) hx hb hr (fun u9 ht _ => ⟨(by rw [hk]; rfl), F4, ⟨by rw [hk]; exact hR, h45⟩, by rw [ht]; exact hP, hS.F ht⟩) hS.2.2 dX4_real_38

set_option maxHeartbeats 4000000 in
set_option maxRecDepth 100000 in
theorem cX4_restart_w {l : Launch} {D : va_G} {cA : Nat → ClassId} {adr : Nat → Nat} {n : Nat} {E : Nat → va_E} {lo : Nat} (hAd : wd_ad lo n adr) {S : CS} {th : Int32} (hn : 45 ≤ n) (hV : Inv S) (hR : RepM cA adr S th E) (tt : Int32) : Met l yX4_restart (.code yX4_restart cX4_restart 3 (some .int) :: lw_G) ({ frames := 2, cells := 0, slots := 0, locals := 43 } : Room) (va_Pc [.ref (adr 30), .int tt] (wdU D (kty cA) adr n E)) (wq D lo adr n (some (.int (if k_rest S tt = 0 then r_rest S tt else 0))) (fun E2 => RepM cA adr (if k_rest S tt = 0 then s_rest S tt else S) (nI (k_rest S tt)) E2 ∧ ∀ j, j < 30 ∨ 45 ≤ j → E2 j = E j)) 0 0 (fun q => lo ≤ q) := by
  refine Met.ofW (cc := cX4_restart) (maxL := 3) (ret := (some .int)) (by decide) rfl ?_
  intro p e s m args below meth c s₁ B hml hv
  obtain ⟨rfl, hP, hN⟩ := hv
  have hx := B.exec
  have hb := B.bytes
  have hr := B.returns
  have hG : ∀ w ∈ lw_G, w.before _ s = true := fun w h => atoms_spec (ws := _ :: lw_G) B.pre w (List.mem_cons_of_mem _ h)
  have hown : s.vm.findClass RX4 = some m.cls := findClass_of_methodNamed B.named
  have hlocks := B.notSynchronized
  have hK := hN.1
  have hS : va_S (fun q => lo ≤ q) s.heap s.heap [] := va_S.rf
  have hF : ∀ j, j ≠ 30 → E j = E j := fun j _ => rfl
  have hl := lv_entry ([.ref (adr 30), .int tt]) (n := 3) (Nat.le_of_ble_eq_true rfl)
  rw [lg_entry_eq]
  generalize (lg_sl ([.ref (adr 30), .int tt]) ++ List.replicate (3 - (lg_sl ([.ref (adr 30), .int tt])).length) Slot.unset).toArray = ls at hl ⊢
  have hl : lv_has ls 3 [(0, .ref (adr 30)), (1, .int tt)] := hl
  obtain ⟨hM0, hM1, hM2, hM3, hM4, hM5, hM6, hM7, hM8, hM9, hM10, hM11, hM12, hM13, hM14⟩ := id hR
  obtain ⟨hct, hnm, htd, hmk, hlf, hnt, hnu, hcn, hmz, hmm, hib, hmr, hrise⟩ := id hV
  have h45 : ∀ j, j < 30 ∨ 45 ≤ j → E j = E j := fun _ _ => rfl
  refine lv_iload_n hx hb dX4_restart_0 rfl (lv_at hl 1 rfl) ?_
  refine wn_rS (rest := []) hx hb hml hown hG (cX4_isTeller_r _) (cwS 1 hG (gS g_550 g_551 g_5 g_552) rfl rfl rfl (by decide +kernel) ⟨Nat.le_of_ble_eq_true rfl, Nat.le_of_ble_eq_true rfl⟩) rfl hl.1 rfl (Nat.le_of_ble_eq_true rfl) dX4_restart_1 ⟨Nat.le_of_ble_eq_true rfl, Nat.le_of_ble_eq_true rfl⟩ ?_
  refine lv_if_ne (tgt := 11) hx hb dX4_restart_4 (by decide) (fun c4 => ?_) (fun c4 => ?_)
  · have n4 : (inN tt 5) = true := bI_1.mp c4
    refine lv_iconst (v := 0) hx hb dX4_restart_11 (by decide) ?_
    obtain ⟨t, ht, rfl⟩ := inN_of n4 (by decide)
    have blf := hlf t ht
    refine lv_istore_n (lv' := [(2, .int 0), (0, .ref (adr 30)), (1, .int (nI t))]) hx hb dX4_restart_12 rfl hl (by decide) rfl (fun ls hl => ?_)
    refine lv_aload_n hx hb dX4_restart_13 rfl (lv_at hl 1 rfl) ?_
    refine lv_iload_n hx hb dX4_restart_14 rfl (lv_at hl 0 rfl) ?_
    refine lv_iload_n hx hb dX4_restart_15 rfl (lv_at hl 0 rfl) ?_
    refine lv_if_ne (tgt := 41) hx hb dX4_restart_16 (by decide) (fun c16 => absurd (by decide) c16) (fun c16 => ?_)
    refine lv_aload_n hx hb dX4_restart_19 rfl (lv_at hl 1 rfl) ?_
    refine va_get (D := D) (ci := 4) (v := .ref (adr 31)) (C := RX4) (T := TX4) (N := 16) hx hb hG inG_X4 hown hK hP 30 (wl_at (by omega) hM0) rfl 1 (by decide) (hG _ g_494) (fun _ h9 => h9) rfl dX4_restart_20 ?_
    refine lv_iload_n hx hb dX4_restart_23 rfl (lv_at hl 0 rfl) ?_
    refine lv_if_eq (tgt := 31) hx hb dX4_restart_24 (by decide) (fun c24 => ?_) (fun c24 => absurd (by decide) c24)
    refine lv_iload_n hx hb dX4_restart_31 rfl (lv_at hl 2 rfl) ?_
    refine wn_iald (j := t) hx hb hK hP (by omega) hM1 (by omega) (by decide) dX4_restart_32 ?_
    refine lv_iconst (v := 3) hx hb dX4_restart_33 (by decide) ?_
    refine lv_icmp_ne (tgt := 41) hx hb dX4_restart_34 (by decide) (fun c34 => ?_) (fun c34 => ?_)
    · have n34 : ¬ (c_lf S t) = 3 := fun h7 => c34 ((nI_eq (a := (c_lf S t)) (b := 3) (by omega) (by omega)).mpr h7)
      refine lv_iconst (v := 0) hx hb dX4_restart_41 (by decide) ?_
      refine lv_iconst (v := 0) hx hb dX4_restart_42 (by decide) ?_
      refine lv_iconst (v := 0) hx hb dX4_restart_43 (by decide) ?_
      refine wn_wV (rest := []) hx hb hml hown hG hN hP hS (cX4_throwing_w hAd hn hV hR false false false false) (cwV 4 hG (gV g_557 g_559 gp_X4_throwing g_5 g_560) rfl rfl rfl (by decide +kernel) ⟨Nat.le_of_ble_eq_true rfl, Nat.le_of_ble_eq_true rfl⟩) (by omega) hM0 rfl rfl hl.1 rfl (Nat.le_of_ble_eq_true rfl) dX4_restart_44 ⟨Nat.le_of_ble_eq_true rfl, Nat.le_of_ble_eq_true rfl⟩ (fun F1 H locs hFF hP hS => ?_)
      obtain ⟨hR, fF⟩ := hFF
      have h45 : ∀ j, j < 30 ∨ 45 ≤ j → F1 j = E j := fun j hj => (fF j (by omega)).trans (h45 j hj)
      obtain ⟨hM0, hM1, hM2, hM3, hM4, hM5, hM6, hM7, hM8, hM9, hM10, hM11, hM12, hM13, hM14⟩ := id hR
      refine lv_if_eq (tgt := 52) hx hb dX4_restart_47 (by decide) (fun c47 => ?_) (fun c47 => absurd (by decide) c47)
      refine lv_aload_n hx hb dX4_restart_52 rfl (lv_at hl 1 rfl) ?_
      refine va_get (D := D) (ci := 4) (v := .ref (adr 31)) (C := RX4) (T := TX4) (N := 16) hx hb hG inG_X4 hown hK hP 30 (wl_at (by omega) hM0) rfl 1 (by decide) (hG _ g_494) (fun _ h9 => h9) rfl dX4_restart_53 ?_
      refine lv_iload_n hx hb dX4_restart_56 rfl (lv_at hl 2 rfl) ?_
      refine lv_dup2_11 hx hb dX4_restart_57 rfl rfl ?_
      refine wn_iald (j := t) hx hb hK hP (by omega) hM1 (by omega) (by decide) dX4_restart_58 ?_
      refine lv_iconst (v := 1) hx hb dX4_restart_59 (by decide) ?_
      refine lv_iadd hx hb dX4_restart_60 ?_
      refine lv_topi (fun y9 e9 => ?_)
      have e9 : y9 = nI ((c_lf S t) + 1) := e9.trans (nI_add (c_lf S t) 1)
      subst e9
      have hF : ∀ j, j ≠ 31 → F1 j = F1 j := fun j _ => rfl
      refine wn_iast (j := t) hx hb hK hAd hP hS (by omega) hM1 (by omega) (by decide) dX4_restart_61 (fun H locs hP hS => ?_)
      rw [upd_nI] at hP
      obtain ⟨E2x, hE2x⟩ : ∃ z, z = va_up F1 31 (.inl (cA 0, 5, .inl (fun j => nI (upN (c_lf S) t ((c_lf S t) + 1) j)))) := ⟨_, rfl⟩
      have hP : va_P D kcl (wl adr n E2x) H := by rw [hE2x]; exact hP
      have hF : ∀ j, j ≠ 31 → E2x j = F1 j := fun j z => by rw [hE2x, va_up_ne _ _ z]
      have h45 : ∀ j, j < 30 ∨ 45 ≤ j → E2x j = E j := fun j hj => (hF j (by omega)).trans (h45 j hj)
      have hM1 : E2x 31 = .inl (cA 0, 5, .inl (fun j => nI (upN (c_lf S) t ((c_lf S t) + 1) j))) := by rw [hE2x, va_up_self]
      have hM0 := (hF 30 (by omega)).trans hM0
      refine lv_aload_n hx hb dX4_restart_62 rfl (lv_at hl 1 rfl) ?_
      refine va_get (D := D) (ci := 4) (v := .ref (adr 31)) (C := RX4) (T := TX4) (N := 16) hx hb hG inG_X4 hown hK hP 30 (wl_at (by omega) hM0) rfl 1 (by decide) (hG _ g_494) (fun _ h9 => h9) rfl dX4_restart_63 ?_
      refine lv_iload_n hx hb dX4_restart_66 rfl (lv_at hl 2 rfl) ?_
      refine wn_iald (j := t) hx hb hK hP (by omega) hM1 (by omega) (by decide) dX4_restart_67 ?_
      have hk : k_rest S (nI t) = 0 := by unfold k_rest; rw [n4, nI_clamp (by omega)]; simp only [if_true]; rw [if_neg (by omega)]
      exact W.iret (v := nI (upN (c_lf S) t ((c_lf S t) + 1) t)) hx hb hr (fun u9 ht _ => ⟨(by rw [hk, if_pos rfl]; exact congrArg (fun z => Outcome.returned (some (Value.int z))) (by unfold r_rest; rw [nI_clamp (by omega), upN_self])), E2x, ⟨by rw [hk]; exact (by unfold s_rest; rw [nI_clamp (by omega)]; exact repm_lf hR hM1 hF), h45⟩, by rw [ht]; exact hP, hS.F ht⟩) hS.2.2 dX4_restart_68
    · have n34 : (c_lf S t) = 3 := (nI_eq (a := (c_lf S t)) (b := 3) (by omega) (by omega)).mp c34
      refine lv_iconst (v := 1) hx hb dX4_restart_37 (by decide) ?_
      refine lv_goto (tgt := 42) hx hb dX4_restart_38 (by decide) ?_
      refine lv_iconst (v := 0) hx hb dX4_restart_42 (by decide) ?_
      refine lv_iconst (v := 0) hx hb dX4_restart_43 (by decide) ?_
      refine wn_wV (rest := []) hx hb hml hown hG hN hP hS (cX4_throwing_w hAd hn hV hR false true false false) (cwV 4 hG (gV g_557 g_559 gp_X4_throwing g_5 g_560) rfl rfl rfl (by decide +kernel) ⟨Nat.le_of_ble_eq_true rfl, Nat.le_of_ble_eq_true rfl⟩) (by omega) hM0 rfl rfl hl.1 rfl (Nat.le_of_ble_eq_true rfl) dX4_restart_44 ⟨Nat.le_of_ble_eq_true rfl, Nat.le_of_ble_eq_true rfl⟩ (fun F3 H locs hFF hP hS => ?_)
      obtain ⟨hR, fF⟩ := hFF
      have h45 : ∀ j, j < 30 ∨ 45 ≤ j → F3 j = E j := fun j hj => (fF j (by omega)).trans (h45 j hj)
      obtain ⟨hM0, hM1, hM2, hM3, hM4, hM5, hM6, hM7, hM8, hM9, hM10, hM11, hM12, hM13, hM14⟩ := id hR
      refine lv_if_eq (tgt := 52) hx hb dX4_restart_47 (by decide) (fun c47 => absurd c47 (by decide)) (fun c47 => ?_)
      refine lv_iconst (v := 0) hx hb dX4_restart_50 (by decide) ?_
      have hk : k_rest S (nI t) = 2 := by unfold k_rest; rw [n4, nI_clamp (by omega)]; simp only [if_true]; rw [if_pos (by omega)]
      exact W.iret (v := 0) hx hb hr (fun u9 ht _ => ⟨(by rw [hk]; rfl), F3, ⟨by rw [hk]; exact hR, h45⟩, by rw [ht]; exact hP, hS.F ht⟩) hS.2.2 dX4_restart_51
  · have n4 : (inN tt 5) = false := bI_0.mp c4
    refine lv_iconst (v := 1) hx hb dX4_restart_7 (by decide) ?_
    refine lv_goto (tgt := 12) hx hb dX4_restart_8 (by decide) ?_
    refine lv_istore_n (lv' := [(2, .int 1), (0, .ref (adr 30)), (1, .int tt)]) hx hb dX4_restart_12 rfl hl (by decide) rfl (fun ls hl => ?_)
    refine lv_aload_n hx hb dX4_restart_13 rfl (lv_at hl 1 rfl) ?_
    refine lv_iload_n hx hb dX4_restart_14 rfl (lv_at hl 0 rfl) ?_
    refine lv_iload_n hx hb dX4_restart_15 rfl (lv_at hl 0 rfl) ?_
    refine lv_if_ne (tgt := 41) hx hb dX4_restart_16 (by decide) (fun c16 => ?_) (fun c16 => absurd c16 (by decide))
    refine lv_iconst (v := 0) hx hb dX4_restart_41 (by decide) ?_
    refine lv_iconst (v := 0) hx hb dX4_restart_42 (by decide) ?_
    refine lv_iconst (v := 0) hx hb dX4_restart_43 (by decide) ?_
    refine wn_wV (rest := []) hx hb hml hown hG hN hP hS (cX4_throwing_w hAd hn hV hR true false false false) (cwV 4 hG (gV g_557 g_559 gp_X4_throwing g_5 g_560) rfl rfl rfl (by decide +kernel) ⟨Nat.le_of_ble_eq_true rfl, Nat.le_of_ble_eq_true rfl⟩) (by omega) hM0 rfl rfl hl.1 rfl (Nat.le_of_ble_eq_true rfl) dX4_restart_44 ⟨Nat.le_of_ble_eq_true rfl, Nat.le_of_ble_eq_true rfl⟩ (fun F4 H locs hFF hP hS => ?_)
    obtain ⟨hR, fF⟩ := hFF
    have h45 : ∀ j, j < 30 ∨ 45 ≤ j → F4 j = E j := fun j hj => (fF j (by omega)).trans (h45 j hj)
    obtain ⟨hM0, hM1, hM2, hM3, hM4, hM5, hM6, hM7, hM8, hM9, hM10, hM11, hM12, hM13, hM14⟩ := id hR
    refine lv_if_eq (tgt := 52) hx hb dX4_restart_47 (by decide) (fun c47 => absurd c47 (by decide)) (fun c47 => ?_)
    refine lv_iconst (v := 0) hx hb dX4_restart_50 (by decide) ?_
    have hk : k_rest S tt = 1 := by unfold k_rest; rw [n4]; rfl
    exact W.iret (v := 0) hx hb hr (fun u9 ht _ => ⟨(by rw [hk]; rfl), F4, ⟨by rw [hk]; exact hR, h45⟩, by rw [ht]; exact hP, hS.F ht⟩) hS.2.2 dX4_restart_51

set_option maxHeartbeats 4000000 in
set_option maxRecDepth 100000 in
theorem cX4_last_w {l : Launch} {D : va_G} {cA : Nat → ClassId} {adr : Nat → Nat} {n : Nat} {E : Nat → va_E} {lo : Nat} (hAd : wd_ad lo n adr) {S : CS} {th : Int32} (hn : 45 ≤ n) (hV : Inv S) (hR : RepM cA adr S th E) (dd kk ww : Int32) : Met l yX4_last (.code yX4_last cX4_last 6 (some .int) :: lw_G) ({ frames := 4, cells := 0, slots := 0, locals := 97 } : Room) (va_Pc [.ref (adr 30), .int dd, .int kk, .int ww] (wdU D (kty cA) adr n E)) (wq D lo adr n (some (.int (if k_last S dd kk ww = 0 then r_last S dd kk ww else 0))) (fun E2 => RepM cA adr (if k_last S dd kk ww = 0 then S else S) (nI (k_last S dd kk ww)) E2 ∧ ∀ j, j < 30 ∨ 45 ≤ j → E2 j = E j)) 0 0 (fun q => lo ≤ q) := by
  refine Met.ofW (cc := cX4_last) (maxL := 6) (ret := (some .int)) (by decide) rfl ?_
  intro p e s m args below meth c s₁ B hml hv
  obtain ⟨rfl, hP, hN⟩ := hv
  have hx := B.exec
  have hb := B.bytes
  have hr := B.returns
  have hG : ∀ w ∈ lw_G, w.before _ s = true := fun w h => atoms_spec (ws := _ :: lw_G) B.pre w (List.mem_cons_of_mem _ h)
  have hown : s.vm.findClass RX4 = some m.cls := findClass_of_methodNamed B.named
  have hlocks := B.notSynchronized
  have hK := hN.1
  have hS : va_S (fun q => lo ≤ q) s.heap s.heap [] := va_S.rf
  have hF : ∀ j, j ≠ 30 → E j = E j := fun j _ => rfl
  have hl := lv_entry ([.ref (adr 30), .int dd, .int kk, .int ww]) (n := 6) (Nat.le_of_ble_eq_true rfl)
  rw [lg_entry_eq]
  generalize (lg_sl ([.ref (adr 30), .int dd, .int kk, .int ww]) ++ List.replicate (6 - (lg_sl ([.ref (adr 30), .int dd, .int kk, .int ww])).length) Slot.unset).toArray = ls at hl ⊢
  have hl : lv_has ls 6 [(0, .ref (adr 30)), (1, .int dd), (2, .int kk), (3, .int ww)] := hl
  obtain ⟨hM0, hM1, hM2, hM3, hM4, hM5, hM6, hM7, hM8, hM9, hM10, hM11, hM12, hM13, hM14⟩ := id hR
  obtain ⟨hct, hnm, htd, hmk, hlf, hnt, hnu, hcn, hmz, hmm, hib, hmr, hrise⟩ := id hV
  have h45 : ∀ j, j < 30 ∨ 45 ≤ j → E j = E j := fun _ _ => rfl
  refine lv_iload_n hx hb dX4_last_0 rfl (lv_at hl 1 rfl) ?_
  refine wn_rS (rest := []) hx hb hml hown hG (cX4_isDesk_r _) (cwS 1 hG (gS g_573 g_574 g_5 g_575) rfl rfl rfl (by decide +kernel) ⟨Nat.le_of_ble_eq_true rfl, Nat.le_of_ble_eq_true rfl⟩) rfl hl.1 rfl (Nat.le_of_ble_eq_true rfl) dX4_last_1 ⟨Nat.le_of_ble_eq_true rfl, Nat.le_of_ble_eq_true rfl⟩ ?_
  refine lv_if_eq (tgt := 28) hx hb dX4_last_4 (by decide) (fun c4 => ?_) (fun c4 => ?_)
  · have n4 : (inN dd 3) = false := bI_0.mp c4
    refine lv_iconst (v := 1) hx hb dX4_last_28 (by decide) ?_
    refine lv_goto (tgt := 33) hx hb dX4_last_29 (by decide) ?_
    refine lv_istore (lv' := [(4, .int 1), (0, .ref (adr 30)), (1, .int dd), (2, .int kk), (3, .int ww)]) hx hb dX4_last_33 hl (by decide) rfl (fun ls hl => ?_)
    refine lv_iload hx hb dX4_last_35 (lv_at hl 0 rfl) ?_
    refine lv_if_eq (tgt := 44) hx hb dX4_last_37 (by decide) (fun c37 => absurd c37 (by decide)) (fun c37 => ?_)
    refine lv_iconst (v := (-1)) hx hb dX4_last_40 (by decide) ?_
    refine lv_goto (tgt := 56) hx hb dX4_last_41 (by decide) ?_
    refine lv_istore (lv' := [(5, .int (-1)), (4, .int 1), (0, .ref (adr 30)), (1, .int dd), (2, .int kk), (3, .int ww)]) hx hb dX4_last_56 hl (by decide) rfl (fun ls hl => ?_)
    refine lv_aload_n hx hb dX4_last_58 rfl (lv_at hl 2 rfl) ?_
    refine lv_iload hx hb dX4_last_59 (lv_at hl 1 rfl) ?_
    refine lv_iload hx hb dX4_last_61 (lv_at hl 0 rfl) ?_
    refine lv_if_ge (tgt := 70) hx hb dX4_last_63 (by decide) (fun c63 => absurd c63 (by decide)) (fun c63 => ?_)
    refine lv_iconst (v := 1) hx hb dX4_last_66 (by decide) ?_
    refine lv_goto (tgt := 71) hx hb dX4_last_67 (by decide) ?_
    refine lv_iconst (v := 0) hx hb dX4_last_71 (by decide) ?_
    refine lv_iconst (v := 0) hx hb dX4_last_72 (by decide) ?_
    refine wn_wV (rest := []) hx hb hml hown hG hN hP hS (cX4_throwing_w hAd hn hV hR true true false false) (cwV 4 hG (gV g_557 g_559 gp_X4_throwing g_5 g_560) rfl rfl rfl (by decide +kernel) ⟨Nat.le_of_ble_eq_true rfl, Nat.le_of_ble_eq_true rfl⟩) (by omega) hM0 rfl rfl hl.1 rfl (Nat.le_of_ble_eq_true rfl) dX4_last_73 ⟨Nat.le_of_ble_eq_true rfl, Nat.le_of_ble_eq_true rfl⟩ (fun F1 H locs hFF hP hS => ?_)
    obtain ⟨hR, fF⟩ := hFF
    have h45 : ∀ j, j < 30 ∨ 45 ≤ j → F1 j = E j := fun j hj => (fF j (by omega)).trans (h45 j hj)
    obtain ⟨hM0, hM1, hM2, hM3, hM4, hM5, hM6, hM7, hM8, hM9, hM10, hM11, hM12, hM13, hM14⟩ := id hR
    refine lv_if_eq (tgt := 81) hx hb dX4_last_76 (by decide) (fun c76 => absurd c76 (by decide)) (fun c76 => ?_)
    refine lv_iconst (v := 0) hx hb dX4_last_79 (by decide) ?_
    have hk : k_last S dd kk ww = 1 := by unfold k_last; first | (rw [n4]; rfl) | (rw [n15, Bool.and_false]; rfl) | (rw [n25, Bool.and_false]; rfl)
    exact W.iret (v := 0) hx hb hr (fun u9 ht _ => ⟨(by rw [hk]; rfl), F1, ⟨by rw [hk]; exact hR, h45⟩, by rw [ht]; exact hP, hS.F ht⟩) hS.2.2 dX4_last_80
  · have n4 : (inN dd 3) = true := bI_1.mp c4
    refine lv_iload_n hx hb dX4_last_7 rfl (lv_at hl 2 rfl) ?_
    refine lv_i2l (v := kk.toInt64) hx hb dX4_last_8 rfl ?_
    refine lv_iconst (v := 0) hx hb dX4_last_9 (by decide) ?_
    refine lv_bipush (v := 7) hx hb dX4_last_10 (by decide) ?_
    refine wn_rS (rest := []) hx hb hml hown hG (cX4_in_r _ _ _) (cwS 3 hG (gS g_553 g_554 g_5 g_555) rfl rfl rfl (by decide +kernel) ⟨Nat.le_of_ble_eq_true rfl, Nat.le_of_ble_eq_true rfl⟩) rfl hl.1 rfl (Nat.le_of_ble_eq_true rfl) dX4_last_12 ⟨Nat.le_of_ble_eq_true rfl, Nat.le_of_ble_eq_true rfl⟩ ?_
    refine lv_topi (fun y9 e9 => ?_)
    have e9 : y9 = bI (inN kk 8) := e9.trans (congrArg bI (inr_N kk 7 (by decide)))
    subst e9
    refine lv_if_eq (tgt := 28) hx hb dX4_last_15 (by decide) (fun c15 => ?_) (fun c15 => ?_)
    · have n15 : (inN kk 8) = false := bI_0.mp c15
      refine lv_iconst (v := 1) hx hb dX4_last_28 (by decide) ?_
      refine lv_goto (tgt := 33) hx hb dX4_last_29 (by decide) ?_
      refine lv_istore (lv' := [(4, .int 1), (0, .ref (adr 30)), (1, .int dd), (2, .int kk), (3, .int ww)]) hx hb dX4_last_33 hl (by decide) rfl (fun ls hl => ?_)
      refine lv_iload hx hb dX4_last_35 (lv_at hl 0 rfl) ?_
      refine lv_if_eq (tgt := 44) hx hb dX4_last_37 (by decide) (fun c37 => absurd c37 (by decide)) (fun c37 => ?_)
      refine lv_iconst (v := (-1)) hx hb dX4_last_40 (by decide) ?_
      refine lv_goto (tgt := 56) hx hb dX4_last_41 (by decide) ?_
      refine lv_istore (lv' := [(5, .int (-1)), (4, .int 1), (0, .ref (adr 30)), (1, .int dd), (2, .int kk), (3, .int ww)]) hx hb dX4_last_56 hl (by decide) rfl (fun ls hl => ?_)
      refine lv_aload_n hx hb dX4_last_58 rfl (lv_at hl 2 rfl) ?_
      refine lv_iload hx hb dX4_last_59 (lv_at hl 1 rfl) ?_
      refine lv_iload hx hb dX4_last_61 (lv_at hl 0 rfl) ?_
      refine lv_if_ge (tgt := 70) hx hb dX4_last_63 (by decide) (fun c63 => absurd c63 (by decide)) (fun c63 => ?_)
      refine lv_iconst (v := 1) hx hb dX4_last_66 (by decide) ?_
      refine lv_goto (tgt := 71) hx hb dX4_last_67 (by decide) ?_
      refine lv_iconst (v := 0) hx hb dX4_last_71 (by decide) ?_
      refine lv_iconst (v := 0) hx hb dX4_last_72 (by decide) ?_
      refine wn_wV (rest := []) hx hb hml hown hG hN hP hS (cX4_throwing_w hAd hn hV hR true true false false) (cwV 4 hG (gV g_557 g_559 gp_X4_throwing g_5 g_560) rfl rfl rfl (by decide +kernel) ⟨Nat.le_of_ble_eq_true rfl, Nat.le_of_ble_eq_true rfl⟩) (by omega) hM0 rfl rfl hl.1 rfl (Nat.le_of_ble_eq_true rfl) dX4_last_73 ⟨Nat.le_of_ble_eq_true rfl, Nat.le_of_ble_eq_true rfl⟩ (fun F2 H locs hFF hP hS => ?_)
      obtain ⟨hR, fF⟩ := hFF
      have h45 : ∀ j, j < 30 ∨ 45 ≤ j → F2 j = E j := fun j hj => (fF j (by omega)).trans (h45 j hj)
      obtain ⟨hM0, hM1, hM2, hM3, hM4, hM5, hM6, hM7, hM8, hM9, hM10, hM11, hM12, hM13, hM14⟩ := id hR
      refine lv_if_eq (tgt := 81) hx hb dX4_last_76 (by decide) (fun c76 => absurd c76 (by decide)) (fun c76 => ?_)
      refine lv_iconst (v := 0) hx hb dX4_last_79 (by decide) ?_
      have hk : k_last S dd kk ww = 1 := by unfold k_last; first | (rw [n4]; rfl) | (rw [n15, Bool.and_false]; rfl) | (rw [n25, Bool.and_false]; rfl)
      exact W.iret (v := 0) hx hb hr (fun u9 ht _ => ⟨(by rw [hk]; rfl), F2, ⟨by rw [hk]; exact hR, h45⟩, by rw [ht]; exact hP, hS.F ht⟩) hS.2.2 dX4_last_80
    · have n15 : (inN kk 8) = true := bI_1.mp c15
      refine lv_iload_n hx hb dX4_last_18 rfl (lv_at hl 3 rfl) ?_
      refine lv_i2l (v := ww.toInt64) hx hb dX4_last_19 rfl ?_
      refine lv_iconst (v := 0) hx hb dX4_last_20 (by decide) ?_
      refine lv_iconst (v := 4) hx hb dX4_last_21 (by decide) ?_
      refine wn_rS (rest := []) hx hb hml hown hG (cX4_in_r _ _ _) (cwS 3 hG (gS g_553 g_554 g_5 g_555) rfl rfl rfl (by decide +kernel) ⟨Nat.le_of_ble_eq_true rfl, Nat.le_of_ble_eq_true rfl⟩) rfl hl.1 rfl (Nat.le_of_ble_eq_true rfl) dX4_last_22 ⟨Nat.le_of_ble_eq_true rfl, Nat.le_of_ble_eq_true rfl⟩ ?_
      refine lv_topi (fun y9 e9 => ?_)
      have e9 : y9 = bI (inN ww 5) := e9.trans (congrArg bI (inr_N ww 4 (by decide)))
      subst e9
      refine lv_if_ne (tgt := 32) hx hb dX4_last_25 (by decide) (fun c25 => ?_) (fun c25 => ?_)
      · have n25 : (inN ww 5) = true := bI_1.mp c25
        refine lv_iconst (v := 0) hx hb dX4_last_32 (by decide) ?_
        obtain ⟨d, hd, rfl⟩ := inN_of n4 (by decide)
        obtain ⟨k, hk, rfl⟩ := inN_of n15 (by decide)
        refine lv_istore (lv' := [(4, .int 0), (0, .ref (adr 30)), (1, .int (nI d)), (2, .int (nI k)), (3, .int ww)]) hx hb dX4_last_33 hl (by decide) rfl (fun ls hl => ?_)
        refine lv_iload hx hb dX4_last_35 (lv_at hl 0 rfl) ?_
        refine lv_if_eq (tgt := 44) hx hb dX4_last_37 (by decide) (fun c37 => ?_) (fun c37 => absurd (by decide) c37)
        refine lv_aload_n hx hb dX4_last_44 rfl (lv_at hl 1 rfl) ?_
        refine lv_iload_n hx hb dX4_last_45 rfl (lv_at hl 2 rfl) ?_
        refine lv_iload_n hx hb dX4_last_46 rfl (lv_at hl 3 rfl) ?_
        refine lv_aload_n hx hb dX4_last_47 rfl (lv_at hl 1 rfl) ?_
        refine va_get (D := D) (ci := 4) (v := .ref (adr 43)) (C := RX4) (T := TX4) (N := 16) hx hb hG inG_X4 hown hK hP 30 (wl_at (by omega) hM0) rfl 14 (by decide) (hG _ g_507) (fun _ h9 => h9) rfl dX4_last_48 ?_
        refine lv_iload_n hx hb dX4_last_51 rfl (lv_at hl 2 rfl) ?_
        refine wn_iald (j := d) hx hb hK hP (by omega) hM13 (by omega) (by decide) dX4_last_52 ?_
        refine wn_rV (rest := []) hx hb hml hown hG hN hP (cX4_lastOf_r hn hV hR (d := d) (key := k) hd hk (c_mt S d)) (cwV 3 hG (gV g_627 g_629 gp_X4_lastOf g_5 g_630) rfl rfl rfl (by decide +kernel) ⟨Nat.le_of_ble_eq_true rfl, Nat.le_of_ble_eq_true rfl⟩) (by omega) hM0 rfl rfl hl.1 rfl (Nat.le_of_ble_eq_true rfl) dX4_last_53 ⟨Nat.le_of_ble_eq_true rfl, Nat.le_of_ble_eq_true rfl⟩ ?_
        rcases hz : c_lst S d k (c_mt S d) with _ | z
        · have bz0 : True := trivial
          refine lv_istore (lv' := [(5, .int (-1)), (4, .int 0), (0, .ref (adr 30)), (1, .int (nI d)), (2, .int (nI k)), (3, .int ww)]) hx hb dX4_last_56 hl (by decide) rfl (fun ls hl => ?_)
          refine lv_aload_n hx hb dX4_last_58 rfl (lv_at hl 2 rfl) ?_
          refine lv_iload hx hb dX4_last_59 (lv_at hl 1 rfl) ?_
          refine lv_iload hx hb dX4_last_61 (lv_at hl 0 rfl) ?_
          refine lv_if_ge (tgt := 70) hx hb dX4_last_63 (by decide) (fun c63 => absurd c63 (by decide)) (fun c63 => ?_)
          refine lv_iconst (v := 1) hx hb dX4_last_66 (by decide) ?_
          refine lv_goto (tgt := 71) hx hb dX4_last_67 (by decide) ?_
          refine lv_iconst (v := 0) hx hb dX4_last_71 (by decide) ?_
          refine lv_iconst (v := 0) hx hb dX4_last_72 (by decide) ?_
          refine wn_wV (rest := []) hx hb hml hown hG hN hP hS (cX4_throwing_w hAd hn hV hR false true false false) (cwV 4 hG (gV g_557 g_559 gp_X4_throwing g_5 g_560) rfl rfl rfl (by decide +kernel) ⟨Nat.le_of_ble_eq_true rfl, Nat.le_of_ble_eq_true rfl⟩) (by omega) hM0 rfl rfl hl.1 rfl (Nat.le_of_ble_eq_true rfl) dX4_last_73 ⟨Nat.le_of_ble_eq_true rfl, Nat.le_of_ble_eq_true rfl⟩ (fun F3 H locs hFF hP hS => ?_)
          obtain ⟨hR, fF⟩ := hFF
          have h45 : ∀ j, j < 30 ∨ 45 ≤ j → F3 j = E j := fun j hj => (fF j (by omega)).trans (h45 j hj)
          obtain ⟨hM0, hM1, hM2, hM3, hM4, hM5, hM6, hM7, hM8, hM9, hM10, hM11, hM12, hM13, hM14⟩ := id hR
          refine lv_if_eq (tgt := 81) hx hb dX4_last_76 (by decide) (fun c76 => absurd c76 (by decide)) (fun c76 => ?_)
          refine lv_iconst (v := 0) hx hb dX4_last_79 (by decide) ?_
          have hk : k_last S (nI d) (nI k) ww = 2 := by unfold k_last; rw [n4, n15, n25, nI_clamp (by omega), nI_clamp (by omega), hz]; rfl
          exact W.iret (v := 0) hx hb hr (fun u9 ht _ => ⟨(by rw [hk]; rfl), F3, ⟨by rw [hk]; exact hR, h45⟩, by rw [ht]; exact hP, hS.F ht⟩) hS.2.2 dX4_last_80
        · have bz := lst_lt hz
          have bnz := hnm z
          refine lv_istore (lv' := [(5, .int (nI z)), (4, .int 0), (0, .ref (adr 30)), (1, .int (nI d)), (2, .int (nI k)), (3, .int ww)]) hx hb dX4_last_56 hl (by decide) rfl (fun ls hl => ?_)
          refine lv_aload_n hx hb dX4_last_58 rfl (lv_at hl 2 rfl) ?_
          refine lv_iload hx hb dX4_last_59 (lv_at hl 1 rfl) ?_
          refine lv_iload hx hb dX4_last_61 (lv_at hl 0 rfl) ?_
          refine lv_if_ge (tgt := 70) hx hb dX4_last_63 (by decide) (fun c63 => ?_) (fun c63 => absurd (nI_pos' (by omega)) c63)
          refine lv_iconst (v := 0) hx hb dX4_last_70 (by decide) ?_
          refine lv_iconst (v := 0) hx hb dX4_last_71 (by decide) ?_
          refine lv_iconst (v := 0) hx hb dX4_last_72 (by decide) ?_
          refine wn_wV (rest := []) hx hb hml hown hG hN hP hS (cX4_throwing_w hAd hn hV hR false false false false) (cwV 4 hG (gV g_557 g_559 gp_X4_throwing g_5 g_560) rfl rfl rfl (by decide +kernel) ⟨Nat.le_of_ble_eq_true rfl, Nat.le_of_ble_eq_true rfl⟩) (by omega) hM0 rfl rfl hl.1 rfl (Nat.le_of_ble_eq_true rfl) dX4_last_73 ⟨Nat.le_of_ble_eq_true rfl, Nat.le_of_ble_eq_true rfl⟩ (fun F4 H locs hFF hP hS => ?_)
          obtain ⟨hR, fF⟩ := hFF
          have h45 : ∀ j, j < 30 ∨ 45 ≤ j → F4 j = E j := fun j hj => (fF j (by omega)).trans (h45 j hj)
          obtain ⟨hM0, hM1, hM2, hM3, hM4, hM5, hM6, hM7, hM8, hM9, hM10, hM11, hM12, hM13, hM14⟩ := id hR
          refine lv_if_eq (tgt := 81) hx hb dX4_last_76 (by decide) (fun c76 => ?_) (fun c76 => absurd (by decide) c76)
          obtain ⟨j, hj, rfl⟩ := inN_of n25 (by decide)
          refine lv_iload_n hx hb dX4_last_81 rfl (lv_at hl 5 rfl) ?_
          refine lv_iconst (v := 2) hx hb dX4_last_82 (by decide) ?_
          refine lv_icmp_ge (tgt := 119) hx hb dX4_last_83 (by decide) (fun c83 => ?_) (fun c83 => ?_)
          · have n83 : 2 ≤ j := (nI_leI (a := 2) (b := j) (by omega) (by omega)).mp c83
            refine lv_iload_n hx hb dX4_last_119 rfl (lv_at hl 5 rfl) ?_
            refine lv_iconst (v := 2) hx hb dX4_last_120 (by decide) ?_
            refine lv_icmp_ne (tgt := 134) hx hb dX4_last_121 (by decide) (fun c121 => ?_) (fun c121 => ?_)
            · have n121 : ¬ j = 2 := fun h7 => c121 ((nI_eq (a := j) (b := 2) (by omega) (by omega)).mpr h7)
              refine lv_iload_n hx hb dX4_last_134 rfl (lv_at hl 5 rfl) ?_
              refine lv_iconst (v := 3) hx hb dX4_last_135 (by decide) ?_
              refine lv_icmp_ne (tgt := 149) hx hb dX4_last_136 (by decide) (fun c136 => ?_) (fun c136 => ?_)
              · have n136 : ¬ j = 3 := fun h7 => c136 ((nI_eq (a := j) (b := 3) (by omega) (by omega)).mpr h7)
                refine lv_aload_n hx hb dX4_last_149 rfl (lv_at hl 2 rfl) ?_
                refine va_get (D := D) (ci := 4) (v := .ref (adr 36)) (C := RX4) (T := TX4) (N := 16) hx hb hG inG_X4 hown hK hP 30 (wl_at (by omega) hM0) rfl 7 (by decide) (hG _ g_500) (fun _ h9 => h9) rfl dX4_last_150 ?_
                refine lv_iload hx hb dX4_last_153 (lv_at hl 0 rfl) ?_
                refine wn_iald (j := z) hx hb hK hP (by omega) hM6 (by omega) (by decide) dX4_last_155 ?_
                have hk : k_last S (nI d) (nI k) (nI j) = 0 := by unfold k_last; rw [n4, n15, n25, nI_clamp (by omega), nI_clamp (by omega), hz]; rfl
                exact W.iret (v := nI (c_nm S z / 128 % 4)) hx hb hr (fun u9 ht _ => ⟨(by rw [hk, if_pos rfl]; exact congrArg (fun z => Outcome.returned (some (Value.int z))) (by unfold r_last a_last; rw [nI_clamp (by omega), nI_clamp (by omega), hz]; simp only [Option.getD_some]; rw [show j = 4 from by omega]; rfl)), F4, ⟨by rw [hk]; exact hR, h45⟩, by rw [ht]; exact hP, hS.F ht⟩) hS.2.2 dX4_last_156
              · have n136 : j = 3 := (nI_eq (a := j) (b := 3) (by omega) (by omega)).mp c136
                refine lv_aload_n hx hb dX4_last_139 rfl (lv_at hl 2 rfl) ?_
                refine va_get (D := D) (ci := 4) (v := .ref (adr 37)) (C := RX4) (T := TX4) (N := 16) hx hb hG inG_X4 hown hK hP 30 (wl_at (by omega) hM0) rfl 8 (by decide) (hG _ g_501) (fun _ h9 => h9) rfl dX4_last_140 ?_
                refine lv_iload hx hb dX4_last_143 (lv_at hl 0 rfl) ?_
                refine wn_iald (j := z) hx hb hK hP (by omega) hM7 (by omega) (by decide) dX4_last_145 ?_
                refine lv_goto (tgt := 156) hx hb dX4_last_146 (by decide) ?_
                have hk : k_last S (nI d) (nI k) (nI j) = 0 := by unfold k_last; rw [n4, n15, n25, nI_clamp (by omega), nI_clamp (by omega), hz]; rfl
                exact W.iret (v := nI (c_nm S z % 128)) hx hb hr (fun u9 ht _ => ⟨(by rw [hk, if_pos rfl]; exact congrArg (fun z => Outcome.returned (some (Value.int z))) (by unfold r_last a_last; rw [nI_clamp (by omega), nI_clamp (by omega), hz]; simp only [Option.getD_some]; rw [show j = 3 from by omega]; rfl)), F4, ⟨by rw [hk]; exact hR, h45⟩, by rw [ht]; exact hP, hS.F ht⟩) hS.2.2 dX4_last_156
            · have n121 : j = 2 := (nI_eq (a := j) (b := 2) (by omega) (by omega)).mp c121
              refine lv_aload_n hx hb dX4_last_124 rfl (lv_at hl 2 rfl) ?_
              refine va_get (D := D) (ci := 4) (v := .ref (adr 35)) (C := RX4) (T := TX4) (N := 16) hx hb hG inG_X4 hown hK hP 30 (wl_at (by omega) hM0) rfl 6 (by decide) (hG _ g_499) (fun _ h9 => h9) rfl dX4_last_125 ?_
              refine lv_iload hx hb dX4_last_128 (lv_at hl 0 rfl) ?_
              refine wn_iald (j := z) hx hb hK hP (by omega) hM5 (by omega) (by decide) dX4_last_130 ?_
              refine lv_goto (tgt := 156) hx hb dX4_last_131 (by decide) ?_
              have hk : k_last S (nI d) (nI k) (nI j) = 0 := by unfold k_last; rw [n4, n15, n25, nI_clamp (by omega), nI_clamp (by omega), hz]; rfl
              exact W.iret (v := nI (c_nm S z / 512)) hx hb hr (fun u9 ht _ => ⟨(by rw [hk, if_pos rfl]; exact congrArg (fun z => Outcome.returned (some (Value.int z))) (by unfold r_last a_last; rw [nI_clamp (by omega), nI_clamp (by omega), hz]; simp only [Option.getD_some]; rw [show j = 2 from by omega]; rfl)), F4, ⟨by rw [hk]; exact hR, h45⟩, by rw [ht]; exact hP, hS.F ht⟩) hS.2.2 dX4_last_156
          · have n83 : ¬ 2 ≤ j := fun h7 => c83 ((nI_leI (a := 2) (b := j) (by omega) (by omega)).mpr h7)
            refine lv_iload_n hx hb dX4_last_86 rfl (lv_at hl 5 rfl) ?_
            refine lv_if_ne (tgt := 100) hx hb dX4_last_87 (by decide) (fun c87 => ?_) (fun c87 => ?_)
            · have n87 : ¬ j = 0 := fun h7 => c87 ((nI_eq (a := j) (b := 0) (by omega) (by omega)).mpr h7)
              refine lv_aload_n hx hb dX4_last_100 rfl (lv_at hl 2 rfl) ?_
              refine lv_aload_n hx hb dX4_last_101 rfl (lv_at hl 2 rfl) ?_
              refine va_get (D := D) (ci := 4) (v := .ref (adr 35)) (C := RX4) (T := TX4) (N := 16) hx hb hG inG_X4 hown hK hP 30 (wl_at (by omega) hM0) rfl 6 (by decide) (hG _ g_499) (fun _ h9 => h9) rfl dX4_last_102 ?_
              refine lv_iload hx hb dX4_last_105 (lv_at hl 0 rfl) ?_
              refine wn_iald (j := z) hx hb hK hP (by omega) hM5 (by omega) (by decide) dX4_last_107 ?_
              refine lv_aload_n hx hb dX4_last_108 rfl (lv_at hl 2 rfl) ?_
              refine va_get (D := D) (ci := 4) (v := .ref (adr 40)) (C := RX4) (T := TX4) (N := 16) hx hb hG inG_X4 hown hK hP 30 (wl_at (by omega) hM0) rfl 11 (by decide) (hG _ g_504) (fun _ h9 => h9) rfl dX4_last_109 ?_
              refine lv_iload hx hb dX4_last_112 (lv_at hl 0 rfl) ?_
              refine wn_iald (j := z) hx hb hK hP (by omega) hM10 (by omega) (by decide) dX4_last_114 ?_
              refine wn_rV (rest := []) hx hb hml hown hG hN hP (cX4_realOf_r hn hV hR (t := c_nm S z / 512) (by omega) (nI (c_td S z % 2 ^ 20))) (cwV 2 hG (gV g_565 g_567 gp_X4_realOf g_5 g_568) rfl rfl rfl (by decide +kernel) ⟨Nat.le_of_ble_eq_true rfl, Nat.le_of_ble_eq_true rfl⟩) (by omega) hM0 rfl rfl hl.1 rfl (Nat.le_of_ble_eq_true rfl) dX4_last_115 ⟨Nat.le_of_ble_eq_true rfl, Nat.le_of_ble_eq_true rfl⟩ ?_
              have hk : k_last S (nI d) (nI k) (nI j) = 0 := by unfold k_last; rw [n4, n15, n25, nI_clamp (by omega), nI_clamp (by omega), hz]; rfl
              exact W.iret (v := c_rt S z) hx hb hr (fun u9 ht _ => ⟨(by rw [hk, if_pos rfl]; exact congrArg (fun z => Outcome.returned (some (Value.int z))) (by unfold r_last a_last; rw [nI_clamp (by omega), nI_clamp (by omega), hz]; simp only [Option.getD_some]; rw [if_neg (show ¬ nI j = 0 from c87), if_pos (show nI j = 1 from by rw [show j = 1 from by omega]; rfl)])), F4, ⟨by rw [hk]; exact hR, h45⟩, by rw [ht]; exact hP, hS.F ht⟩) hS.2.2 dX4_last_118
            · have n87 : j = 0 := (nI_eq (a := j) (b := 0) (by omega) (by omega)).mp c87
              refine lv_aload_n hx hb dX4_last_90 rfl (lv_at hl 2 rfl) ?_
              refine va_get (D := D) (ci := 4) (v := .ref (adr 39)) (C := RX4) (T := TX4) (N := 16) hx hb hG inG_X4 hown hK hP 30 (wl_at (by omega) hM0) rfl 10 (by decide) (hG _ g_503) (fun _ h9 => h9) rfl dX4_last_91 ?_
              refine lv_iload hx hb dX4_last_94 (lv_at hl 0 rfl) ?_
              refine wn_iald (j := z) hx hb hK hP (by omega) hM9 (by omega) (by decide) dX4_last_96 ?_
              refine lv_goto (tgt := 118) hx hb dX4_last_97 (by decide) ?_
              have hk : k_last S (nI d) (nI k) (nI j) = 0 := by unfold k_last; rw [n4, n15, n25, nI_clamp (by omega), nI_clamp (by omega), hz]; rfl
              exact W.iret (v := (c_vl S) z) hx hb hr (fun u9 ht _ => ⟨(by rw [hk, if_pos rfl]; exact congrArg (fun z => Outcome.returned (some (Value.int z))) (by unfold r_last a_last; rw [nI_clamp (by omega), nI_clamp (by omega), hz]; simp only [Option.getD_some]; rw [if_pos (show nI j = 0 from c87)])), F4, ⟨by rw [hk]; exact hR, h45⟩, by rw [ht]; exact hP, hS.F ht⟩) hS.2.2 dX4_last_118
      · have n25 : (inN ww 5) = false := bI_0.mp c25
        refine lv_iconst (v := 1) hx hb dX4_last_28 (by decide) ?_
        refine lv_goto (tgt := 33) hx hb dX4_last_29 (by decide) ?_
        refine lv_istore (lv' := [(4, .int 1), (0, .ref (adr 30)), (1, .int dd), (2, .int kk), (3, .int ww)]) hx hb dX4_last_33 hl (by decide) rfl (fun ls hl => ?_)
        refine lv_iload hx hb dX4_last_35 (lv_at hl 0 rfl) ?_
        refine lv_if_eq (tgt := 44) hx hb dX4_last_37 (by decide) (fun c37 => absurd c37 (by decide)) (fun c37 => ?_)
        refine lv_iconst (v := (-1)) hx hb dX4_last_40 (by decide) ?_
        refine lv_goto (tgt := 56) hx hb dX4_last_41 (by decide) ?_
        refine lv_istore (lv' := [(5, .int (-1)), (4, .int 1), (0, .ref (adr 30)), (1, .int dd), (2, .int kk), (3, .int ww)]) hx hb dX4_last_56 hl (by decide) rfl (fun ls hl => ?_)
        refine lv_aload_n hx hb dX4_last_58 rfl (lv_at hl 2 rfl) ?_
        refine lv_iload hx hb dX4_last_59 (lv_at hl 1 rfl) ?_
        refine lv_iload hx hb dX4_last_61 (lv_at hl 0 rfl) ?_
        refine lv_if_ge (tgt := 70) hx hb dX4_last_63 (by decide) (fun c63 => absurd c63 (by decide)) (fun c63 => ?_)
        refine lv_iconst (v := 1) hx hb dX4_last_66 (by decide) ?_
        refine lv_goto (tgt := 71) hx hb dX4_last_67 (by decide) ?_
        refine lv_iconst (v := 0) hx hb dX4_last_71 (by decide) ?_
        refine lv_iconst (v := 0) hx hb dX4_last_72 (by decide) ?_
        refine wn_wV (rest := []) hx hb hml hown hG hN hP hS (cX4_throwing_w hAd hn hV hR true true false false) (cwV 4 hG (gV g_557 g_559 gp_X4_throwing g_5 g_560) rfl rfl rfl (by decide +kernel) ⟨Nat.le_of_ble_eq_true rfl, Nat.le_of_ble_eq_true rfl⟩) (by omega) hM0 rfl rfl hl.1 rfl (Nat.le_of_ble_eq_true rfl) dX4_last_73 ⟨Nat.le_of_ble_eq_true rfl, Nat.le_of_ble_eq_true rfl⟩ (fun F5 H locs hFF hP hS => ?_)
        obtain ⟨hR, fF⟩ := hFF
        have h45 : ∀ j, j < 30 ∨ 45 ≤ j → F5 j = E j := fun j hj => (fF j (by omega)).trans (h45 j hj)
        obtain ⟨hM0, hM1, hM2, hM3, hM4, hM5, hM6, hM7, hM8, hM9, hM10, hM11, hM12, hM13, hM14⟩ := id hR
        refine lv_if_eq (tgt := 81) hx hb dX4_last_76 (by decide) (fun c76 => absurd c76 (by decide)) (fun c76 => ?_)
        refine lv_iconst (v := 0) hx hb dX4_last_79 (by decide) ?_
        have hk : k_last S dd kk ww = 1 := by unfold k_last; first | (rw [n4]; rfl) | (rw [n15, Bool.and_false]; rfl) | (rw [n25, Bool.and_false]; rfl)
        exact W.iret (v := 0) hx hb hr (fun u9 ht _ => ⟨(by rw [hk]; rfl), F5, ⟨by rw [hk]; exact hR, h45⟩, by rw [ht]; exact hP, hS.F ht⟩) hS.2.2 dX4_last_80
