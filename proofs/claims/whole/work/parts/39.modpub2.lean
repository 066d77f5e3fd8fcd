set_option maxHeartbeats 4000000 in
set_option maxRecDepth 100000 in
theorem cX4_known_w {l : Launch} {D : va_G} {cA : Nat → ClassId} {adr : Nat → Nat} {n : Nat} {E : Nat → va_E} {lo : Nat} (hAd : wd_ad lo n adr) {S : CS} {th : Int32} (hn : 45 ≤ n) (hV : Inv S) (hR : RepM cA adr S th E) (dd kk mm : Int32) : Met l yX4_known (.code yX4_known cX4_known 7 (some .int) :: lw_G) ({ frames := 4, cells := 0, slots := 0, locals := 97 } : Room) (va_Pc [.ref (adr 30), .int dd, .int kk, .int mm] (wdU D (kty cA) adr n E)) (wq D lo adr n (some (.int (if k_known S dd kk mm = 0 then r_known S dd kk mm else 0))) (fun E2 => RepM cA adr (if k_known S dd kk mm = 0 then S else S) (nI (k_known S dd kk mm)) E2 ∧ ∀ j, j < 30 ∨ 45 ≤ j → E2 j = E j)) 0 0 (fun q => lo ≤ q) := by
  refine Met.ofW (cc := cX4_known) (maxL := 7) (ret := (some .int)) (by decide) rfl ?_
  intro p e s m args below meth c s₁ B hml hv
  obtain ⟨rfl, hP, hN⟩ := hv
  have hx := B.exec
  have hb := B.bytes
  have hr := B.returns
  have hG : ∀ w ∈ lw_G, w.before _ s = true := fun w h => atoms_spec (ws := _ :: lw_G) B.pre w (List.mem_cons_of_mem _ h)
  have hown : s.vm.findClass RX4 = some m.cls := findClass_of_methodNamed B.named
  have hlocks := B.notSynchronized
  have hK := hN.1
  have hS : va_S (fun q => lo ≤ q) s.heap s.heap [] := va_S.rf
  have hF : ∀ j, j ≠ 30 → E j = E j := fun j _ => rfl
  have hl := lv_entry ([.ref (adr 30), .int dd, .int kk, .int mm]) (n := 7) (Nat.le_of_ble_eq_true rfl)
  rw [lg_entry_eq]
  generalize (lg_sl ([.ref (adr 30), .int dd, .int kk, .int mm]) ++ List.replicate (7 - (lg_sl ([.ref (adr 30), .int dd, .int kk, .int mm])).length) Slot.unset).toArray = ls at hl ⊢
  have hl : lv_has ls 7 [(0, .ref (adr 30)), (1, .int dd), (2, .int kk), (3, .int mm)] := hl
  obtain ⟨hM0, hM1, hM2, hM3, hM4, hM5, hM6, hM7, hM8, hM9, hM10, hM11, hM12, hM13, hM14⟩ := id hR
  obtain ⟨hct, hnm, htd, hmk, hlf, hnt, hnu, hcn, hmz, hmm, hib, hmr, hrise⟩ := id hV
  have h45 : ∀ j, j < 30 ∨ 45 ≤ j → E j = E j := fun _ _ => rfl
  refine lv_iload_n hx hb dX4_known_0 rfl (lv_at hl 1 rfl) ?_
  refine wn_rS (rest := []) hx hb hml hown hG (cX4_isDesk_r _) (cwS 1 hG (gS g_573 g_574 g_5 g_575) rfl rfl rfl (by decide +kernel) ⟨Nat.le_of_ble_eq_true rfl, Nat.le_of_ble_eq_true rfl⟩) rfl hl.1 rfl (Nat.le_of_ble_eq_true rfl) dX4_known_1 ⟨Nat.le_of_ble_eq_true rfl, Nat.le_of_ble_eq_true rfl⟩ ?_
  refine lv_if_eq (tgt := 18) hx hb dX4_known_4 (by decide) (fun c4 => ?_) (fun c4 => ?_)
  · have n4 : (inN dd 3) = false := bI_0.mp c4
    refine lv_iconst (v := 1) hx hb dX4_known_18 (by decide) ?_
    refine lv_goto (tgt := 23) hx hb dX4_known_19 (by decide) ?_
    refine lv_istore (lv' := [(4, .int 1), (0, .ref (adr 30)), (1, .int dd), (2, .int kk), (3, .int mm)]) hx hb dX4_known_23 hl (by decide) rfl (fun ls hl => ?_)
    refine lv_iload hx hb dX4_known_25 (lv_at hl 0 rfl) ?_
    refine lv_if_ne (tgt := 58) hx hb dX4_known_27 (by decide) (fun c27 => ?_) (fun c27 => absurd c27 (by decide))
    refine lv_iconst (v := 0) hx hb dX4_known_58 (by decide) ?_
    refine lv_istore (lv' := [(5, .int 0), (4, .int 1), (0, .ref (adr 30)), (1, .int dd), (2, .int kk), (3, .int mm)]) hx hb dX4_known_59 hl (by decide) rfl (fun ls hl => ?_)
    refine lv_iload hx hb dX4_known_61 (lv_at hl 1 rfl) ?_
    refine lv_if_ne (tgt := 71) hx hb dX4_known_63 (by decide) (fun c63 => ?_) (fun c63 => absurd c63 (by decide))
    refine lv_iconst (v := (-1)) hx hb dX4_known_71 (by decide) ?_
    refine lv_goto (tgt := 82) hx hb dX4_known_72 (by decide) ?_
    refine lv_istore (lv' := [(6, .int (-1)), (5, .int 0), (4, .int 1), (0, .ref (adr 30)), (1, .int dd), (2, .int kk), (3, .int mm)]) hx hb dX4_known_82 hl (by decide) rfl (fun ls hl => ?_)
    refine lv_aload_n hx hb dX4_known_84 rfl (lv_at hl 3 rfl) ?_
    refine lv_iload hx hb dX4_known_85 (lv_at hl 2 rfl) ?_
    refine lv_iload hx hb dX4_known_87 (lv_at hl 1 rfl) ?_
    refine lv_if_ne (tgt := 101) hx hb dX4_known_89 (by decide) (fun c89 => absurd (by decide) c89) (fun c89 => ?_)
    refine lv_iload hx hb dX4_known_92 (lv_at hl 0 rfl) ?_
    refine lv_if_ge (tgt := 101) hx hb dX4_known_94 (by decide) (fun c94 => absurd c94 (by decide)) (fun c94 => ?_)
    refine lv_iconst (v := 1) hx hb dX4_known_97 (by decide) ?_
    refine lv_goto (tgt := 102) hx hb dX4_known_98 (by decide) ?_
    refine lv_iload hx hb dX4_known_102 (lv_at hl 1 rfl) ?_
    refine lv_iconst (v := 0) hx hb dX4_known_104 (by decide) ?_
    refine wn_wV (rest := []) hx hb hml hown hG hN hP hS (cX4_throwing_w hAd hn hV hR true true false false) (cwV 4 hG (gV g_557 g_559 gp_X4_throwing g_5 g_560) rfl rfl rfl (by decide +kernel) ⟨Nat.le_of_ble_eq_true rfl, Nat.le_of_ble_eq_true rfl⟩) (by omega) hM0 rfl rfl hl.1 rfl (Nat.le_of_ble_eq_true rfl) dX4_known_105 ⟨Nat.le_of_ble_eq_true rfl, Nat.le_of_ble_eq_true rfl⟩ (fun F1 H locs hFF hP hS => ?_)
    obtain ⟨hR, fF⟩ := hFF
    have h45 : ∀ j, j < 30 ∨ 45 ≤ j → F1 j = E j := fun j hj => (fF j (by omega)).trans (h45 j hj)
    obtain ⟨hM0, hM1, hM2, hM3, hM4, hM5, hM6, hM7, hM8, hM9, hM10, hM11, hM12, hM13, hM14⟩ := id hR
    refine lv_if_eq (tgt := 113) hx hb dX4_known_108 (by decide) (fun c108 => absurd c108 (by decide)) (fun c108 => ?_)
    refine lv_iconst (v := 0) hx hb dX4_known_111 (by decide) ?_
    have hk : k_known S dd kk mm = 1 := by unfold k_known; first | (rw [n4]; rfl) | (rw [n15, Bool.and_false]; rfl)
    exact W.iret (v := 0) hx hb hr (fun u9 ht _ => ⟨(by rw [hk]; rfl), F1, ⟨by rw [hk]; exact hR, h45⟩, by rw [ht]; exact hP, hS.F ht⟩) hS.2.2 dX4_known_112
  · have n4 : (inN dd 3) = true := bI_1.mp c4
    refine lv_iload_n hx hb dX4_known_7 rfl (lv_at hl 2 rfl) ?_
    refine lv_i2l (v := kk.toInt64) hx hb dX4_known_8 rfl ?_
    refine lv_iconst (v := 0) hx hb dX4_known_9 (by decide) ?_
    refine lv_bipush (v := 7) hx hb dX4_known_10 (by decide) ?_
    refine wn_rS (rest := []) hx hb hml hown hG (cX4_in_r _ _ _) (cwS 3 hG (gS g_553 g_554 g_5 g_555) rfl rfl rfl (by decide +kernel) ⟨Nat.le_of_ble_eq_true rfl, Nat.le_of_ble_eq_true rfl⟩) rfl hl.1 rfl (Nat.le_of_ble_eq_true rfl) dX4_known_12 ⟨Nat.le_of_ble_eq_true rfl, Nat.le_of_ble_eq_true rfl⟩ ?_
    refine lv_topi (fun y9 e9 => ?_)
    have e9 : y9 = bI (inN kk 8) := e9.trans (congrArg bI (inr_N kk 7 (by decide)))
    subst e9
    refine lv_if_ne (tgt := 22) hx hb dX4_known_15 (by decide) (fun c15 => ?_) (fun c15 => ?_)
    · have n15 : (inN kk 8) = true := bI_1.mp c15
      refine lv_iconst (v := 0) hx hb dX4_known_22 (by decide) ?_
      obtain ⟨d, hd, rfl⟩ := inN_of n4 (by decide)
      obtain ⟨k, hk, rfl⟩ := inN_of n15 (by decide)
      refine lv_istore (lv' := [(4, .int 0), (0, .ref (adr 30)), (1, .int (nI d)), (2, .int (nI k)), (3, .int mm)]) hx hb dX4_known_23 hl (by decide) rfl (fun ls hl => ?_)
      refine lv_iload hx hb dX4_known_25 (lv_at hl 0 rfl) ?_
      refine lv_if_ne (tgt := 58) hx hb dX4_known_27 (by decide) (fun c27 => absurd (by decide) c27) (fun c27 => ?_)
      refine lv_iload_n hx hb dX4_known_30 rfl (lv_at hl 4 rfl) ?_
      refine lv_i2l (v := mm.toInt64) hx hb dX4_known_31 rfl ?_
      refine lv_iconst (v := 0) hx hb dX4_known_32 (by decide) ?_
      refine lv_aload_n hx hb dX4_known_33 rfl (lv_at hl 1 rfl) ?_
      refine va_get (D := D) (ci := 4) (v := .ref (adr 43)) (C := RX4) (T := TX4) (N := 16) hx hb hG inG_X4 hown hK hP 30 (wl_at (by omega) hM0) rfl 14 (by decide) (hG _ g_507) (fun _ h9 => h9) rfl dX4_known_34 ?_
      refine lv_iload hx hb dX4_known_37 (lv_at hl 0 rfl) ?_
      refine lv_if_eq (tgt := 46) hx hb dX4_known_39 (by decide) (fun c39 => ?_) (fun c39 => absurd (by decide) c39)
      refine lv_iload_n hx hb dX4_known_46 rfl (lv_at hl 2 rfl) ?_
      refine wn_iald (j := d) hx hb hK hP (by omega) hM13 (by omega) (by decide) dX4_known_47 ?_
      refine wn_rS (rest := []) hx hb hml hown hG (cX4_in_r _ _ _) (cwS 3 hG (gS g_553 g_554 g_5 g_555) rfl rfl rfl (by decide +kernel) ⟨Nat.le_of_ble_eq_true rfl, Nat.le_of_ble_eq_true rfl⟩) rfl hl.1 rfl (Nat.le_of_ble_eq_true rfl) dX4_known_48 ⟨Nat.le_of_ble_eq_true rfl, Nat.le_of_ble_eq_true rfl⟩ ?_
      refine lv_topi (fun y9 e9 => ?_)
      have e9 : y9 = bI (decide (0 ≤ mm) && decide (mm ≤ c_mt S d)) := e9.trans (congrArg bI (in32 mm 0 (c_mt S d)))
      subst e9
      refine lv_if_ne (tgt := 58) hx hb dX4_known_51 (by decide) (fun c51 => ?_) (fun c51 => ?_)
      · have n51 : (decide (0 ≤ mm) && decide (mm ≤ c_mt S d)) = true := bI_1.mp c51
        refine lv_iconst (v := 0) hx hb dX4_known_58 (by decide) ?_
        refine lv_istore (lv' := [(5, .int 0), (4, .int 0), (0, .ref (adr 30)), (1, .int (nI d)), (2, .int (nI k)), (3, .int mm)]) hx hb dX4_known_59 hl (by decide) rfl (fun ls hl => ?_)
        refine lv_iload hx hb dX4_known_61 (lv_at hl 1 rfl) ?_
        refine lv_if_ne (tgt := 71) hx hb dX4_known_63 (by decide) (fun c63 => absurd (by decide) c63) (fun c63 => ?_)
        refine lv_iload hx hb dX4_known_66 (lv_at hl 0 rfl) ?_
        refine lv_if_eq (tgt := 75) hx hb dX4_known_68 (by decide) (fun c68 => ?_) (fun c68 => absurd (by decide) c68)
        refine lv_aload_n hx hb dX4_known_75 rfl (lv_at hl 2 rfl) ?_
        refine lv_iload_n hx hb dX4_known_76 rfl (lv_at hl 3 rfl) ?_
        refine lv_iload_n hx hb dX4_known_77 rfl (lv_at hl 4 rfl) ?_
        refine lv_iload_n hx hb dX4_known_78 rfl (lv_at hl 5 rfl) ?_
        refine wn_rV (rest := []) hx hb hml hown hG hN hP (cX4_lastOf_r hn hV hR (d := d) (key := k) hd hk mm) (cwV 3 hG (gV g_627 g_629 gp_X4_lastOf g_5 g_630) rfl rfl rfl (by decide +kernel) ⟨Nat.le_of_ble_eq_true rfl, Nat.le_of_ble_eq_true rfl⟩) (by omega) hM0 rfl rfl hl.1 rfl (Nat.le_of_ble_eq_true rfl) dX4_known_79 ⟨Nat.le_of_ble_eq_true rfl, Nat.le_of_ble_eq_true rfl⟩ ?_
        rcases hz : c_lst S d k mm with _ | z
        · have bz0 : True := trivial
          refine lv_istore (lv' := [(6, .int (-1)), (5, .int 0), (4, .int 0), (0, .ref (adr 30)), (1, .int (nI d)), (2, .int (nI k)), (3, .int mm)]) hx hb dX4_known_82 hl (by decide) rfl (fun ls hl => ?_)
          refine lv_aload_n hx hb dX4_known_84 rfl (lv_at hl 3 rfl) ?_
          refine lv_iload hx hb dX4_known_85 (lv_at hl 2 rfl) ?_
          refine lv_iload hx hb dX4_known_87 (lv_at hl 1 rfl) ?_
          refine lv_if_ne (tgt := 101) hx hb dX4_known_89 (by decide) (fun c89 => absurd (by decide) c89) (fun c89 => ?_)
          refine lv_iload hx hb dX4_known_92 (lv_at hl 0 rfl) ?_
          refine lv_if_ge (tgt := 101) hx hb dX4_known_94 (by decide) (fun c94 => absurd c94 (by decide)) (fun c94 => ?_)
          refine lv_iconst (v := 1) hx hb dX4_known_97 (by decide) ?_
          refine lv_goto (tgt := 102) hx hb dX4_known_98 (by decide) ?_
          refine lv_iload hx hb dX4_known_102 (lv_at hl 1 rfl) ?_
          refine lv_iconst (v := 0) hx hb dX4_known_104 (by decide) ?_
          refine wn_wV (rest := []) hx hb hml hown hG hN hP hS (cX4_throwing_w hAd hn hV hR false true false false) (cwV 4 hG (gV g_557 g_559 gp_X4_throwing g_5 g_560) rfl rfl rfl (by decide +kernel) ⟨Nat.le_of_ble_eq_true rfl, Nat.le_of_ble_eq_true rfl⟩) (by omega) hM0 rfl rfl hl.1 rfl (Nat.le_of_ble_eq_true rfl) dX4_known_105 ⟨Nat.le_of_ble_eq_true rfl, Nat.le_of_ble_eq_true rfl⟩ (fun F2 H locs hFF hP hS => ?_)
          obtain ⟨hR, fF⟩ := hFF
          have h45 : ∀ j, j < 30 ∨ 45 ≤ j → F2 j = E j := fun j hj => (fF j (by omega)).trans (h45 j hj)
          obtain ⟨hM0, hM1, hM2, hM3, hM4, hM5, hM6, hM7, hM8, hM9, hM10, hM11, hM12, hM13, hM14⟩ := id hR
          refine lv_if_eq (tgt := 113) hx hb dX4_known_108 (by decide) (fun c108 => absurd c108 (by decide)) (fun c108 => ?_)
          refine lv_iconst (v := 0) hx hb dX4_known_111 (by decide) ?_
          have hk : k_known S (nI d) (nI k) mm = 2 := by unfold k_known; rw [n4, n15, nI_clamp (by omega), nI_clamp (by omega), n51, hz]; rfl
          exact W.iret (v := 0) hx hb hr (fun u9 ht _ => ⟨(by rw [hk]; rfl), F2, ⟨by rw [hk]; exact hR, h45⟩, by rw [ht]; exact hP, hS.F ht⟩) hS.2.2 dX4_known_112
        · have bz := lst_lt hz
          refine lv_istore (lv' := [(6, .int (nI z)), (5, .int 0), (4, .int 0), (0, .ref (adr 30)), (1, .int (nI d)), (2, .int (nI k)), (3, .int mm)]) hx hb dX4_known_82 hl (by decide) rfl (fun ls hl => ?_)
          refine lv_aload_n hx hb dX4_known_84 rfl (lv_at hl 3 rfl) ?_
          refine lv_iload hx hb dX4_known_85 (lv_at hl 2 rfl) ?_
          refine lv_iload hx hb dX4_known_87 (lv_at hl 1 rfl) ?_
          refine lv_if_ne (tgt := 101) hx hb dX4_known_89 (by decide) (fun c89 => absurd (by decide) c89) (fun c89 => ?_)
          refine lv_iload hx hb dX4_known_92 (lv_at hl 0 rfl) ?_
          refine lv_if_ge (tgt := 101) hx hb dX4_known_94 (by decide) (fun c94 => ?_) (fun c94 => absurd (nI_pos' (by omega)) c94)
          refine lv_iconst (v := 0) hx hb dX4_known_101 (by decide) ?_
          refine lv_iload hx hb dX4_known_102 (lv_at hl 1 rfl) ?_
          refine lv_iconst (v := 0) hx hb dX4_known_104 (by decide) ?_
          refine wn_wV (rest := []) hx hb hml hown hG hN hP hS (cX4_throwing_w hAd hn hV hR false false false false) (cwV 4 hG (gV g_557 g_559 gp_X4_throwing g_5 g_560) rfl rfl rfl (by decide +kernel) ⟨Nat.le_of_ble_eq_true rfl, Nat.le_of_ble_eq_true rfl⟩) (by omega) hM0 rfl rfl hl.1 rfl (Nat.le_of_ble_eq_true rfl) dX4_known_105 ⟨Nat.le_of_ble_eq_true rfl, Nat.le_of_ble_eq_true rfl⟩ (fun F3 H locs hFF hP hS => ?_)
          obtain ⟨hR, fF⟩ := hFF
          have h45 : ∀ j, j < 30 ∨ 45 ≤ j → F3 j = E j := fun j hj => (fF j (by omega)).trans (h45 j hj)
          obtain ⟨hM0, hM1, hM2, hM3, hM4, hM5, hM6, hM7, hM8, hM9, hM10, hM11, hM12, hM13, hM14⟩ := id hR
          refine lv_if_eq (tgt := 113) hx hb dX4_known_108 (by decide) (fun c108 => ?_) (fun c108 => absurd (by decide) c108)
          refine lv_aload_n hx hb dX4_known_113 rfl (lv_at hl 3 rfl) ?_
          refine va_get (D := D) (ci := 4) (v := .ref (adr 39)) (C := RX4) (T := TX4) (N := 16) hx hb hG inG_X4 hown hK hP 30 (wl_at (by omega) hM0) rfl 10 (by decide) (hG _ g_503) (fun _ h9 => h9) rfl dX4_known_114 ?_
          refine lv_iload hx hb dX4_known_117 (lv_at hl 0 rfl) ?_
          refine wn_iald (j := z) hx hb hK hP (by omega) hM9 (by omega) (by decide) dX4_known_119 ?_
          have hk : k_known S (nI d) (nI k) mm = 0 := by unfold k_known; rw [n4, n15, nI_clamp (by omega), nI_clamp (by omega), n51, hz]; rfl
          exact W.iret (v := (c_vl S) z) hx hb hr (fun u9 ht _ => ⟨(by rw [hk, if_pos rfl]; exact congrArg (fun z => Outcome.returned (some (Value.int z))) (by unfold r_known; rw [nI_clamp (by omega), nI_clamp (by omega), hz]; rfl)), F3, ⟨by rw [hk]; exact hR, h45⟩, by rw [ht]; exact hP, hS.F ht⟩) hS.2.2 dX4_known_120
      · have n51 : (decide (0 ≤ mm) && decide (mm ≤ c_mt S d)) = false := bI_0.mp c51
        refine lv_iconst (v := 1) hx hb dX4_known_54 (by decide) ?_
        refine lv_goto (tgt := 59) hx hb dX4_known_55 (by decide) ?_
        refine lv_istore (lv' := [(5, .int 1), (4, .int 0), (0, .ref (adr 30)), (1, .int (nI d)), (2, .int (nI k)), (3, .int mm)]) hx hb dX4_known_59 hl (by decide) rfl (fun ls hl => ?_)
        refine lv_iload hx hb dX4_known_61 (lv_at hl 1 rfl) ?_
        refine lv_if_ne (tgt := 71) hx hb dX4_known_63 (by decide) (fun c63 => absurd (by decide) c63) (fun c63 => ?_)
        refine lv_iload hx hb dX4_known_66 (lv_at hl 0 rfl) ?_
        refine lv_if_eq (tgt := 75) hx hb dX4_known_68 (by decide) (fun c68 => absurd c68 (by decide)) (fun c68 => ?_)
        refine lv_iconst (v := (-1)) hx hb dX4_known_71 (by decide) ?_
        refine lv_goto (tgt := 82) hx hb dX4_known_72 (by decide) ?_
        refine lv_istore (lv' := [(6, .int (-1)), (5, .int 1), (4, .int 0), (0, .ref (adr 30)), (1, .int (nI d)), (2, .int (nI k)), (3, .int mm)]) hx hb dX4_known_82 hl (by decide) rfl (fun ls hl => ?_)
        refine lv_aload_n hx hb dX4_known_84 rfl (lv_at hl 3 rfl) ?_
        refine lv_iload hx hb dX4_known_85 (lv_at hl 2 rfl) ?_
        refine lv_iload hx hb dX4_known_87 (lv_at hl 1 rfl) ?_
        refine lv_if_ne (tgt := 101) hx hb dX4_known_89 (by decide) (fun c89 => ?_) (fun c89 => absurd c89 (by decide))
        refine lv_iconst (v := 0) hx hb dX4_known_101 (by decide) ?_
        refine lv_iload hx hb dX4_known_102 (lv_at hl 1 rfl) ?_
        refine lv_iconst (v := 0) hx hb dX4_known_104 (by decide) ?_
        refine wn_wV (rest := []) hx hb hml hown hG hN hP hS (cX4_throwing_w hAd hn hV hR false false true false) (cwV 4 hG (gV g_557 g_559 gp_X4_throwing g_5 g_560) rfl rfl rfl (by decide +kernel) ⟨Nat.le_of_ble_eq_true rfl, Nat.le_of_ble_eq_true rfl⟩) (by omega) hM0 rfl rfl hl.1 rfl (Nat.le_of_ble_eq_true rfl) dX4_known_105 ⟨Nat.le_of_ble_eq_true rfl, Nat.le_of_ble_eq_true rfl⟩ (fun F4 H locs hFF hP hS => ?_)
        obtain ⟨hR, fF⟩ := hFF
        have h45 : ∀ j, j < 30 ∨ 45 ≤ j → F4 j = E j := fun j hj => (fF j (by omega)).trans (h45 j hj)
        obtain ⟨hM0, hM1, hM2, hM3, hM4, hM5, hM6, hM7, hM8, hM9, hM10, hM11, hM12, hM13, hM14⟩ := id hR
        refine lv_if_eq (tgt := 113) hx hb dX4_known_108 (by decide) (fun c108 => absurd c108 (by decide)) (fun c108 => ?_)
        refine lv_iconst (v := 0) hx hb dX4_known_111 (by decide) ?_
        have hk : k_known S (nI d) (nI k) mm = 3 := by unfold k_known; rw [n4, n15, nI_clamp (by omega), nI_clamp (by omega), n51]; rfl
        exact W.iret (v := 0) hx hb hr (fun u9 ht _ => ⟨(by rw [hk]; rfl), F4, ⟨by rw [hk]; exact hR, h45⟩, by rw [ht]; exact hP, hS.F ht⟩) hS.2.2 dX4_known_112
    · have n15 : (inN kk 8) = false := bI_0.mp c15
      refine lv_iconst (v := 1) hx hb dX4_known_18 (by decide) ?_
      refine lv_goto (tgt := 23) hx hb dX4_known_19 (by decide) ?_
      refine lv_istore (lv' := [(4, .int 1), (0, .ref (adr 30)), (1, .int dd), (2, .int kk), (3, .int mm)]) hx hb dX4_known_23 hl (by decide) rfl (fun ls hl => ?_)
      refine lv_iload hx hb dX4_known_25 (lv_at hl 0 rfl) ?_
      refine lv_if_ne (tgt := 58) hx hb dX4_known_27 (by decide) (fun c27 => ?_) (fun c27 => absurd c27 (by decide))
      refine lv_iconst (v := 0) hx hb dX4_known_58 (by decide) ?_
      refine lv_istore (lv' := [(5, .int 0), (4, .int 1), (0, .ref (adr 30)), (1, .int dd), (2, .int kk), (3, .int mm)]) hx hb dX4_known_59 hl (by decide) rfl (fun ls hl => ?_)
      refine lv_iload hx hb dX4_known_61 (lv_at hl 1 rfl) ?_
      refine lv_if_ne (tgt := 71) hx hb dX4_known_63 (by decide) (fun c63 => ?_) (fun c63 => absurd c63 (by decide))
      refine lv_iconst (v := (-1)) hx hb dX4_known_71 (by decide) ?_
      refine lv_goto (tgt := 82) hx hb dX4_known_72 (by decide) ?_
      refine lv_istore (lv' := [(6, .int (-1)), (5, .int 0), (4, .int 1), (0, .ref (adr 30)), (1, .int dd), (2, .int kk), (3, .int mm)]) hx hb dX4_known_82 hl (by decide) rfl (fun ls hl => ?_)
      refine lv_aload_n hx hb dX4_known_84 rfl (lv_at hl 3 rfl) ?_
      refine lv_iload hx hb dX4_known_85 (lv_at hl 2 rfl) ?_
      refine lv_iload hx hb dX4_known_87 (lv_at hl 1 rfl) ?_
      refine lv_if_ne (tgt := 101) hx hb dX4_known_89 (by decide) (fun c89 => absurd (by decide) c89) (fun c89 => ?_)
      refine lv_iload hx hb dX4_known_92 (lv_at hl 0 rfl) ?_
      refine lv_if_ge (tgt := 101) hx hb dX4_known_94 (by decide) (fun c94 => absurd c94 (by decide)) (fun c94 => ?_)
      refine lv_iconst (v := 1) hx hb dX4_known_97 (by decide) ?_
      refine lv_goto (tgt := 102) hx hb dX4_known_98 (by decide) ?_
      refine lv_iload hx hb dX4_known_102 (lv_at hl 1 rfl) ?_
      refine lv_iconst (v := 0) hx hb dX4_known_104 (by decide) ?_
      refine wn_wV (rest := []) hx hb hml hown hG hN hP hS (cX4_throwing_w hAd hn hV hR true true false false) (cwV 4 hG (gV g_557 g_559 gp_X4_throwing g_5 g_560) rfl rfl rfl (by decide +kernel) ⟨Nat.le_of_ble_eq_true rfl, Nat.le_of_ble_eq_true rfl⟩) (by omega) hM0 rfl rfl hl.1 rfl (Nat.le_of_ble_eq_true rfl) dX4_known_105 ⟨Nat.le_of_ble_eq_true rfl, Nat.le_of_ble_eq_true rfl⟩ (fun F5 H locs hFF hP hS => ?_)
      obtain ⟨hR, fF⟩ := hFF
      have h45 : ∀ j, j < 30 ∨ 45 ≤ j → F5 j = E j := fun j hj => (fF j (by omega)).trans (h45 j hj)
      obtain ⟨hM0, hM1, hM2, hM3, hM4, hM5, hM6, hM7, hM8, hM9, hM10, hM11, hM12, hM13, hM14⟩ := id hR
      refine lv_if_eq (tgt := 113) hx hb dX4_known_108 (by decide) (fun c108 => absurd c108 (by decide)) (fun c108 => ?_)
      refine lv_iconst (v := 0) hx hb dX4_known_111 (by decide) ?_
      have hk : k_known S dd kk mm = 1 := by unfold k_known; first | (rw [n4]; rfl) | (rw [n15, Bool.and_false]; rfl)
      exact W.iret (v := 0) hx hb hr (fun u9 ht _ => ⟨(by rw [hk]; rfl), F5, ⟨by rw [hk]; exact hR, h45⟩, by rw [ht]; exact hP, hS.F ht⟩) hS.2.2 dX4_known_112

set_option maxHeartbeats 4000000 in
set_option maxRecDepth 100000 in
theorem cX4_many_w {l : Launch} {D : va_G} {cA : Nat → ClassId} {adr : Nat → Nat} {n : Nat} {E : Nat → va_E} {lo : Nat} (hAd : wd_ad lo n adr) {S : CS} {th : Int32} (hn : 45 ≤ n) (hV : Inv S) (hR : RepM cA adr S th E) (dd ww : Int32) : Met l yX4_many (.code yX4_many cX4_many 5 (some .int) :: lw_G) ({ frames := 2, cells := 0, slots := 0, locals := 43 } : Room) (va_Pc [.ref (adr 30), .int dd, .int ww] (wdU D (kty cA) adr n E)) (wq D lo adr n (some (.int (if k_many S dd ww = 0 then r_many S dd ww else 0))) (fun E2 => RepM cA adr (if k_many S dd ww = 0 then S else S) (nI (k_many S dd ww)) E2 ∧ ∀ j, j < 30 ∨ 45 ≤ j → E2 j = E j)) 0 0 (fun q => lo ≤ q) := by
  refine Met.ofW (cc := cX4_many) (maxL := 5) (ret := (some .int)) (by decide) rfl ?_
  intro p e s m args below meth c s₁ B hml hv
  obtain ⟨rfl, hP, hN⟩ := hv
  have hx := B.exec
  have hb := B.bytes
  have hr := B.returns
  have hG : ∀ w ∈ lw_G, w.before _ s = true := fun w h => atoms_spec (ws := _ :: lw_G) B.pre w (List.mem_cons_of_mem _ h)
  have hown : s.vm.findClass RX4 = some m.cls := findClass_of_methodNamed B.named
  have hlocks := B.notSynchronized
  have hK := hN.1
  have hS : va_S (fun q => lo ≤ q) s.heap s.heap [] := va_S.rf
  have hF : ∀ j, j ≠ 30 → E j = E j := fun j _ => rfl
  have hl := lv_entry ([.ref (adr 30), .int dd, .int ww]) (n := 5) (Nat.le_of_ble_eq_true rfl)
  rw [lg_entry_eq]
  generalize (lg_sl ([.ref (adr 30), .int dd, .int ww]) ++ List.replicate (5 - (lg_sl ([.ref (adr 30), .int dd, .int ww])).length) Slot.unset).toArray = ls at hl ⊢
  have hl : lv_has ls 5 [(0, .ref (adr 30)), (1, .int dd), (2, .int ww)] := hl
  obtain ⟨hM0, hM1, hM2, hM3, hM4, hM5, hM6, hM7, hM8, hM9, hM10, hM11, hM12, hM13, hM14⟩ := id hR
  obtain ⟨hct, hnm, htd, hmk, hlf, hnt, hnu, hcn, hmz, hmm, hib, hmr, hrise⟩ := id hV
  have h45 : ∀ j, j < 30 ∨ 45 ≤ j → E j = E j := fun _ _ => rfl
  refine lv_aload_n hx hb dX4_many_0 rfl (lv_at hl 0 rfl) ?_
  refine lv_iload_n hx hb dX4_many_1 rfl (lv_at hl 1 rfl) ?_
  refine wn_rS (rest := [.ref (adr 30)]) hx hb hml hown hG (cX4_isDesk_r _) (cwS 1 hG (gS g_573 g_574 g_5 g_575) rfl rfl rfl (by decide +kernel) ⟨Nat.le_of_ble_eq_true rfl, Nat.le_of_ble_eq_true rfl⟩) rfl hl.1 rfl (Nat.le_of_ble_eq_true rfl) dX4_many_2 ⟨Nat.le_of_ble_eq_true rfl, Nat.le_of_ble_eq_true rfl⟩ ?_
  refine lv_if_eq (tgt := 18) hx hb dX4_many_5 (by decide) (fun c5 => ?_) (fun c5 => ?_)
  · have n5 : (inN dd 3) = false := bI_0.mp c5
    refine lv_iconst (v := 1) hx hb dX4_many_18 (by decide) ?_
    refine lv_goto (tgt := 23) hx hb dX4_many_19 (by decide) ?_
    refine lv_iconst (v := 0) hx hb dX4_many_23 (by decide) ?_
    refine lv_iconst (v := 0) hx hb dX4_many_24 (by decide) ?_
    refine lv_iconst (v := 0) hx hb dX4_many_25 (by decide) ?_
    refine wn_wV (rest := []) hx hb hml hown hG hN hP hS (cX4_throwing_w hAd hn hV hR true false false false) (cwV 4 hG (gV g_557 g_559 gp_X4_throwing g_5 g_560) rfl rfl rfl (by decide +kernel) ⟨Nat.le_of_ble_eq_true rfl, Nat.le_of_ble_eq_true rfl⟩) (by omega) hM0 rfl rfl hl.1 rfl (Nat.le_of_ble_eq_true rfl) dX4_many_26 ⟨Nat.le_of_ble_eq_true rfl, Nat.le_of_ble_eq_true rfl⟩ (fun F1 H locs hFF hP hS => ?_)
    obtain ⟨hR, fF⟩ := hFF
    have h45 : ∀ j, j < 30 ∨ 45 ≤ j → F1 j = E j := fun j hj => (fF j (by omega)).trans (h45 j hj)
    obtain ⟨hM0, hM1, hM2, hM3, hM4, hM5, hM6, hM7, hM8, hM9, hM10, hM11, hM12, hM13, hM14⟩ := id hR
    refine lv_if_eq (tgt := 34) hx hb dX4_many_29 (by decide) (fun c29 => absurd c29 (by decide)) (fun c29 => ?_)
    refine lv_iconst (v := 0) hx hb dX4_many_32 (by decide) ?_
    have hk : k_many S dd ww = 1 := by unfold k_many; first | (rw [n5]; rfl) | (rw [n15, Bool.and_false]; rfl)
    exact W.iret (v := 0) hx hb hr (fun u9 ht _ => ⟨(by rw [hk]; rfl), F1, ⟨by rw [hk]; exact hR, h45⟩, by rw [ht]; exact hP, hS.F ht⟩) hS.2.2 dX4_many_33
  · have n5 : (inN dd 3) = true := bI_1.mp c5
    refine lv_iload_n hx hb dX4_many_8 rfl (lv_at hl 2 rfl) ?_
    refine lv_i2l (v := ww.toInt64) hx hb dX4_many_9 rfl ?_
    refine lv_iconst (v := 0) hx hb dX4_many_10 (by decide) ?_
    refine lv_iconst (v := 2) hx hb dX4_many_11 (by decide) ?_
    refine wn_rS (rest := [.ref (adr 30)]) hx hb hml hown hG (cX4_in_r _ _ _) (cwS 3 hG (gS g_553 g_554 g_5 g_555) rfl rfl rfl (by decide +kernel) ⟨Nat.le_of_ble_eq_true rfl, Nat.le_of_ble_eq_true rfl⟩) rfl hl.1 rfl (Nat.le_of_ble_eq_true rfl) dX4_many_12 ⟨Nat.le_of_ble_eq_true rfl, Nat.le_of_ble_eq_true rfl⟩ ?_
    refine lv_topi (fun y9 e9 => ?_)
    have e9 : y9 = bI (inN ww 3) := e9.trans (congrArg bI (inr_N ww 2 (by decide)))
    subst e9
    refine lv_if_ne (tgt := 22) hx hb dX4_many_15 (by decide) (fun c15 => ?_) (fun c15 => ?_)
    · have n15 : (inN ww 3) = true := bI_1.mp c15
      refine lv_iconst (v := 0) hx hb dX4_many_22 (by decide) ?_
      refine lv_iconst (v := 0) hx hb dX4_many_23 (by decide) ?_
      refine lv_iconst (v := 0) hx hb dX4_many_24 (by decide) ?_
      refine lv_iconst (v := 0) hx hb dX4_many_25 (by decide) ?_
      refine wn_wV (rest := []) hx hb hml hown hG hN hP hS (cX4_throwing_w hAd hn hV hR false false false false) (cwV 4 hG (gV g_557 g_559 gp_X4_throwing g_5 g_560) rfl rfl rfl (by decide +kernel) ⟨Nat.le_of_ble_eq_true rfl, Nat.le_of_ble_eq_true rfl⟩) (by omega) hM0 rfl rfl hl.1 rfl (Nat.le_of_ble_eq_true rfl) dX4_many_26 ⟨Nat.le_of_ble_eq_true rfl, Nat.le_of_ble_eq_true rfl⟩ (fun F2 H locs hFF hP hS => ?_)
      obtain ⟨hR, fF⟩ := hFF
      have h45 : ∀ j, j < 30 ∨ 45 ≤ j → F2 j = E j := fun j hj => (fF j (by omega)).trans (h45 j hj)
      obtain ⟨hM0, hM1, hM2, hM3, hM4, hM5, hM6, hM7, hM8, hM9, hM10, hM11, hM12, hM13, hM14⟩ := id hR
      refine lv_if_eq (tgt := 34) hx hb dX4_many_29 (by decide) (fun c29 => ?_) (fun c29 => absurd (by decide) c29)
      obtain ⟨d, hd, rfl⟩ := inN_of n5 (by decide)
      obtain ⟨j, hj, rfl⟩ := inN_of n15 (by decide)
      refine lv_iload_n hx hb dX4_many_34 rfl (lv_at hl 2 rfl) ?_
      refine lv_iconst (v := 1) hx hb dX4_many_35 (by decide) ?_
      refine lv_icmp_ne (tgt := 46) hx hb dX4_many_36 (by decide) (fun c36 => ?_) (fun c36 => ?_)
      · have n36 : ¬ j = 1 := fun h7 => c36 ((nI_eq (a := j) (b := 1) (by omega) (by omega)).mpr h7)
        rcases (show j = 0 ∨ j = 2 by omega) with rfl | rfl
        · refine lv_iconst (v := 0) hx hb dX4_many_46 (by decide) ?_
          refine lv_istore_n (lv' := [(3, .int 0), (0, .ref (adr 30)), (1, .int (nI d)), (2, .int (nI 0))]) hx hb dX4_many_47 rfl hl (by decide) rfl (fun ls hl => ?_)
          refine lv_iconst (v := 0) hx hb dX4_many_48 (by decide) ?_
          refine lv_istore (lv' := [(4, .int 0), (3, .int 0), (0, .ref (adr 30)), (1, .int (nI d)), (2, .int (nI 0))]) hx hb dX4_many_49 hl (by decide) rfl (fun ls hl => ?_)
          have L51 : ∀ (f : Nat) (i : Nat), c_ct S - i < f → i ≤ c_ct S → ∀ ls : Array Slot, lv_has ls 5 [(4, .int (nI i)), (3, .int (nI (ctB (fun i => c_see S d i) i))), (0, .ref (adr 30)), (1, .int (nI d)), (2, .int (nI 0))] → W p l e (headSpec (.code yX4_many cX4_many 5 (some .int) :: lw_G) ({ frames := 2, cells := 0, slots := 0, locals := 43 } : Room)).room s m [.ref (adr 30), .int (nI d), .int (nI 0)].toArray below meth c H locs 0 0 (MQ below (wq D lo adr n (some (.int (if k_many S (nI d) (nI 0) = 0 then r_many S (nI d) (nI 0) else 0))) (fun E2 => RepM cA adr (if k_many S (nI d) (nI 0) = 0 then S else S) (nI (k_many S (nI d) (nI 0))) E2 ∧ ∀ j, j < 30 ∨ 45 ≤ j → E2 j = E j)) [.ref (adr 30), .int (nI d), .int (nI 0)].toArray s 0 0 (fun q => lo ≤ q)) (F0 m 51 ls []) := by
            intro f
            induction f with
            | zero => intro i h0; exact absurd h0 (by omega)
            | succ f ih =>
              intro i hf hi ls hl
              refine lv_iload hx hb dX4_many_51 (lv_at hl 0 rfl) ?_
              refine lv_aload_n hx hb dX4_many_53 rfl (lv_at hl 2 rfl) ?_
              refine va_get (D := D) (ci := 4) (v := .int (nI (c_ct S))) (C := RX4) (T := TX4) (N := 16) hx hb hG inG_X4 hown hK hP 30 (wl_at (by omega) hM0) rfl 5 (by decide) (hG _ g_498) (fun _ h9 => h9) rfl dX4_many_54 ?_
              refine lv_icmp_ge (tgt := 116) hx hb dX4_many_57 (by decide) (fun c57 => ?_) (fun c57 => ?_)
              · have n57 : (c_ct S) ≤ i := (nI_leI (a := (c_ct S)) (b := i) (by omega) (by omega)).mp c57
                refine lv_iload_n hx hb dX4_many_116 rfl (lv_at hl 1 rfl) ?_
                have hk : k_many S (nI d) (nI 0) = 0 := by unfold k_many; rw [n5, n15]; rfl
                exact W.iret (v := nI (ctB (fun i => c_see S d i) i)) hx hb hr (fun u9 ht _ => ⟨(by rw [hk, if_pos rfl]; exact congrArg (fun z => Outcome.returned (some (Value.int z))) (by unfold r_many; rw [nI_clamp (by omega)]; rw [show i = c_ct S from by omega]; exact ((hcn d hd).1).symm)), F2, ⟨by rw [hk]; exact hR, h45⟩, by rw [ht]; exact hP, hS.F ht⟩) hS.2.2 dX4_many_117
              · have n57 : ¬ (c_ct S) ≤ i := fun h7 => c57 ((nI_leI (a := (c_ct S)) (b := i) (by omega) (by omega)).mpr h7)
                refine lv_iload_n hx hb dX4_many_60 rfl (lv_at hl 1 rfl) ?_
                refine lv_iload_n hx hb dX4_many_61 rfl (lv_at hl 4 rfl) ?_
                refine lv_if_ne (tgt := 88) hx hb dX4_many_62 (by decide) (fun c62 => absurd (rfl) c62) (fun c62 => ?_)
                refine lv_aload_n hx hb dX4_many_65 rfl (lv_at hl 2 rfl) ?_
                refine va_get (D := D) (ci := 4) (v := .ref (adr 42)) (C := RX4) (T := TX4) (N := 16) hx hb hG inG_X4 hown hK hP 30 (wl_at (by omega) hM0) rfl 13 (by decide) (hG _ g_506) (fun _ h9 => h9) rfl dX4_many_66 ?_
                refine lv_bipush (v := 120) hx hb dX4_many_69 (by decide) ?_
                refine lv_iload_n hx hb dX4_many_71 rfl (lv_at hl 3 rfl) ?_
                refine lv_imul hx hb dX4_many_72 ?_
                refine lv_topi (fun y9 e9 => ?_)
                have e9 : y9 = nI (120 * d) := e9.trans (pk_mul 120 d)
                subst e9
                refine lv_iload hx hb dX4_many_73 (lv_at hl 0 rfl) ?_
                refine lv_iadd hx hb dX4_many_75 ?_
                refine lv_topi (fun y9 e9 => ?_)
                have e9 : y9 = nI ((120 * d) + i) := e9.trans (nI_add (120 * d) i)
                subst e9
                refine wn_ialde (j := ((120 * d) + i)) (v := c_mo S d i) hx hb hK hP (by omega) hM12 (by omega) (by decide) (fl_at (c_mo S) (by omega)) dX4_many_76 ?_
                refine lv_if_le (tgt := 84) hx hb dX4_many_77 (by decide) (fun c77 => ?_) (fun c77 => ?_)
                · have hcs : ctB (fun i => c_see S d i) (i + 1) = ctB (fun i => c_see S d i) i := ctB_f (decide_eq_false (Int32.not_lt.mpr c77))
                  refine lv_iconst (v := 0) hx hb dX4_many_84 (by decide) ?_
                  refine lv_goto (tgt := 108) hx hb dX4_many_85 (by decide) ?_
                  refine lv_iadd hx hb dX4_many_108 ?_
                  refine lv_topi (fun y9 e9 => ?_)
                  have e9 : y9 = nI ((ctB (fun i => c_see S d i) i) + 0) := e9.trans (nI_add (ctB (fun i => c_see S d i) i) 0)
                  subst e9
                  refine lv_topi (fun y9 e9 => ?_)
                  have e9 : y9 = nI (ctB (fun i => c_see S d i) (i + 1)) := e9.trans (by first | (rw [hcs]; rfl) | rw [hcs])
                  subst e9
                  refine lv_istore_n (lv' := [(3, .int (nI (ctB (fun i => c_see S d i) (i + 1)))), (4, .int (nI i)), (0, .ref (adr 30)), (1, .int (nI d)), (2, .int (nI 0))]) hx hb dX4_many_109 rfl hl (by decide) rfl (fun ls hl => ?_)
                  refine lv_iinc (v := nI (i + 1)) (lv' := [(4, .int (nI (i + 1))), (3, .int (nI (ctB (fun i => c_see S d i) (i + 1)))), (0, .ref (adr 30)), (1, .int (nI d)), (2, .int (nI 0))]) hx hb dX4_many_110 hl (k := 1) rfl (nI_1 _) (by decide) rfl (fun ls hl => ?_)
                  refine lv_goto (tgt := 51) hx hb dX4_many_113 (by decide) ?_
                  exact ih (i + 1) (by omega) (by omega) ls (lv_sub hl [0, 1, 2, 3, 4] rfl)
                · have hcs : ctB (fun i => c_see S d i) (i + 1) = ctB (fun i => c_see S d i) i + 1 := ctB_t (decide_eq_true (Int32.not_le.mp c77))
                  refine lv_iconst (v := 1) hx hb dX4_many_80 (by decide) ?_
                  refine lv_goto (tgt := 108) hx hb dX4_many_81 (by decide) ?_
                  refine lv_iadd hx hb dX4_many_108 ?_
                  refine lv_topi (fun y9 e9 => ?_)
                  have e9 : y9 = nI ((ctB (fun i => c_see S d i) i) + 1) := e9.trans (nI_add (ctB (fun i => c_see S d i) i) 1)
                  subst e9
                  refine lv_topi (fun y9 e9 => ?_)
                  have e9 : y9 = nI (ctB (fun i => c_see S d i) (i + 1)) := e9.trans (by first | (rw [hcs]; rfl) | rw [hcs])
                  subst e9
                  refine lv_istore_n (lv' := [(3, .int (nI (ctB (fun i => c_see S d i) (i + 1)))), (4, .int (nI i)), (0, .ref (adr 30)), (1, .int (nI d)), (2, .int (nI 0))]) hx hb dX4_many_109 rfl hl (by decide) rfl (fun ls hl => ?_)
                  refine lv_iinc (v := nI (i + 1)) (lv' := [(4, .int (nI (i + 1))), (3, .int (nI (ctB (fun i => c_see S d i) (i + 1)))), (0, .ref (adr 30)), (1, .int (nI d)), (2, .int (nI 0))]) hx hb dX4_many_110 hl (k := 1) rfl (nI_1 _) (by decide) rfl (fun ls hl => ?_)
                  refine lv_goto (tgt := 51) hx hb dX4_many_113 (by decide) ?_
                  exact ih (i + 1) (by omega) (by omega) ls (lv_sub hl [0, 1, 2, 3, 4] rfl)
          exact L51 (c_ct S + 1) 0 (by omega) (by omega) ls (lv_sub hl [0, 1, 2, 3, 4] rfl)
        · refine lv_iconst (v := 0) hx hb dX4_many_46 (by decide) ?_
          refine lv_istore_n (lv' := [(3, .int 0), (0, .ref (adr 30)), (1, .int (nI d)), (2, .int (nI 2))]) hx hb dX4_many_47 rfl hl (by decide) rfl (fun ls hl => ?_)
          refine lv_iconst (v := 0) hx hb dX4_many_48 (by decide) ?_
          refine lv_istore (lv' := [(4, .int 0), (3, .int 0), (0, .ref (adr 30)), (1, .int (nI d)), (2, .int (nI 2))]) hx hb dX4_many_49 hl (by decide) rfl (fun ls hl => ?_)
          have L51 : ∀ (f : Nat) (i : Nat), c_ct S - i < f → i ≤ c_ct S → ∀ ls : Array Slot, lv_has ls 5 [(4, .int (nI i)), (3, .int (nI (ctB (fun i => decide (c_mo S d i < 0)) i))), (0, .ref (adr 30)), (1, .int (nI d)), (2, .int (nI 2))] → W p l e (headSpec (.code yX4_many cX4_many 5 (some .int) :: lw_G) ({ frames := 2, cells := 0, slots := 0, locals := 43 } : Room)).room s m [.ref (adr 30), .int (nI d), .int (nI 2)].toArray below meth c H locs 0 0 (MQ below (wq D lo adr n (some (.int (if k_many S (nI d) (nI 2) = 0 then r_many S (nI d) (nI 2) else 0))) (fun E2 => RepM cA adr (if k_many S (nI d) (nI 2) = 0 then S else S) (nI (k_many S (nI d) (nI 2))) E2 ∧ ∀ j, j < 30 ∨ 45 ≤ j → E2 j = E j)) [.ref (adr 30), .int (nI d), .int (nI 2)].toArray s 0 0 (fun q => lo ≤ q)) (F0 m 51 ls []) := by
            intro f
            induction f with
            | zero => intro i h0; exact absurd h0 (by omega)
            | succ f ih =>
              intro i hf hi ls hl
              refine lv_iload hx hb dX4_many_51 (lv_at hl 0 rfl) ?_
              refine lv_aload_n hx hb dX4_many_53 rfl (lv_at hl 2 rfl) ?_
              refine va_get (D := D) (ci := 4) (v := .int (nI (c_ct S))) (C := RX4) (T := TX4) (N := 16) hx hb hG inG_X4 hown hK hP 30 (wl_at (by omega) hM0) rfl 5 (by decide) (hG _ g_498) (fun _ h9 => h9) rfl dX4_many_54 ?_
              refine lv_icmp_ge (tgt := 116) hx hb dX4_many_57 (by decide) (fun c57 => ?_) (fun c57 => ?_)
              · have n57 : (c_ct S) ≤ i := (nI_leI (a := (c_ct S)) (b := i) (by omega) (by omega)).mp c57
                refine lv_iload_n hx hb dX4_many_116 rfl (lv_at hl 1 rfl) ?_
                have hk : k_many S (nI d) (nI 2) = 0 := by unfold k_many; rw [n5, n15]; rfl
                exact W.iret (v := nI (ctB (fun i => decide (c_mo S d i < 0)) i)) hx hb hr (fun u9 ht _ => ⟨(by rw [hk, if_pos rfl]; exact congrArg (fun z => Outcome.returned (some (Value.int z))) (by unfold r_many; rw [nI_clamp (by omega)]; rw [show i = c_ct S from by omega]; exact ((hcn d hd).2).symm)), F2, ⟨by rw [hk]; exact hR, h45⟩, by rw [ht]; exact hP, hS.F ht⟩) hS.2.2 dX4_many_117
              · have n57 : ¬ (c_ct S) ≤ i := fun h7 => c57 ((nI_leI (a := (c_ct S)) (b := i) (by omega) (by omega)).mpr h7)
                refine lv_iload_n hx hb dX4_many_60 rfl (lv_at hl 1 rfl) ?_
                refine lv_iload_n hx hb dX4_many_61 rfl (lv_at hl 4 rfl) ?_
                refine lv_if_ne (tgt := 88) hx hb dX4_many_62 (by decide) (fun c62 => ?_) (fun c62 => absurd c62 (by decide))
                refine lv_aload_n hx hb dX4_many_88 rfl (lv_at hl 2 rfl) ?_
                refine va_get (D := D) (ci := 4) (v := .ref (adr 42)) (C := RX4) (T := TX4) (N := 16) hx hb hG inG_X4 hown hK hP 30 (wl_at (by omega) hM0) rfl 13 (by decide) (hG _ g_506) (fun _ h9 => h9) rfl dX4_many_89 ?_
                refine lv_bipush (v := 120) hx hb dX4_many_92 (by decide) ?_
                refine lv_iload_n hx hb dX4_many_94 rfl (lv_at hl 3 rfl) ?_
                refine lv_imul hx hb dX4_many_95 ?_
                refine lv_topi (fun y9 e9 => ?_)
                have e9 : y9 = nI (120 * d) := e9.trans (pk_mul 120 d)
                subst e9
                refine lv_iload hx hb dX4_many_96 (lv_at hl 0 rfl) ?_
                refine lv_iadd hx hb dX4_many_98 ?_
                refine lv_topi (fun y9 e9 => ?_)
                have e9 : y9 = nI ((120 * d) + i) := e9.trans (nI_add (120 * d) i)
                subst e9
                refine wn_ialde (j := ((120 * d) + i)) (v := c_mo S d i) hx hb hK hP (by omega) hM12 (by omega) (by decide) (fl_at (c_mo S) (by omega)) dX4_many_99 ?_
                refine lv_if_ge (tgt := 107) hx hb dX4_many_100 (by decide) (fun c100 => ?_) (fun c100 => ?_)
                · have hcs : ctB (fun i => decide (c_mo S d i < 0)) (i + 1) = ctB (fun i => decide (c_mo S d i < 0)) i := ctB_f (decide_eq_false (Int32.not_lt.mpr c100))
                  refine lv_iconst (v := 0) hx hb dX4_many_107 (by decide) ?_
                  refine lv_iadd hx hb dX4_many_108 ?_
                  refine lv_topi (fun y9 e9 => ?_)
                  have e9 : y9 = nI ((ctB (fun i => decide (c_mo S d i < 0)) i) + 0) := e9.trans (nI_add (ctB (fun i => decide (c_mo S d i < 0)) i) 0)
                  subst e9
                  refine lv_topi (fun y9 e9 => ?_)
                  have e9 : y9 = nI (ctB (fun i => decide (c_mo S d i < 0)) (i + 1)) := e9.trans (by first | (rw [hcs]; rfl) | rw [hcs])
                  subst e9
                  refine lv_istore_n (lv' := [(3, .int (nI (ctB (fun i => decide (c_mo S d i < 0)) (i + 1)))), (4, .int (nI i)), (0, .ref (adr 30)), (1, .int (nI d)), (2, .int (nI 2))]) hx hb dX4_many_109 rfl hl (by decide) rfl (fun ls hl => ?_)
                  refine lv_iinc (v := nI (i + 1)) (lv' := [(4, .int (nI (i + 1))), (3, .int (nI (ctB (fun i => decide (c_mo S d i < 0)) (i + 1)))), (0, .ref (adr 30)), (1, .int (nI d)), (2, .int (nI 2))]) hx hb dX4_many_110 hl (k := 1) rfl (nI_1 _) (by decide) rfl (fun ls hl => ?_)
                  refine lv_goto (tgt := 51) hx hb dX4_many_113 (by decide) ?_
                  exact ih (i + 1) (by omega) (by omega) ls (lv_sub hl [0, 1, 2, 3, 4] rfl)
                · have hcs : ctB (fun i => decide (c_mo S d i < 0)) (i + 1) = ctB (fun i => decide (c_mo S d i < 0)) i + 1 := ctB_t (decide_eq_true (Int32.not_le.mp c100))
                  refine lv_iconst (v := 1) hx hb dX4_many_103 (by decide) ?_
                  refine lv_goto (tgt := 108) hx hb dX4_many_104 (by decide) ?_
                  refine lv_iadd hx hb dX4_many_108 ?_
                  refine lv_topi (fun y9 e9 => ?_)
                  have e9 : y9 = nI ((ctB (fun i => decide (c_mo S d i < 0)) i) + 1) := e9.trans (nI_add (ctB (fun i => decide (c_mo S d i < 0)) i) 1)
                  subst e9
                  refine lv_topi (fun y9 e9 => ?_)
                  have e9 : y9 = nI (ctB (fun i => decide (c_mo S d i < 0)) (i + 1)) := e9.trans (by first | (rw [hcs]; rfl) | rw [hcs])
                  subst e9
                  refine lv_istore_n (lv' := [(3, .int (nI (ctB (fun i => decide (c_mo S d i < 0)) (i + 1)))), (4, .int (nI i)), (0, .ref (adr 30)), (1, .int (nI d)), (2, .int (nI 2))]) hx hb dX4_many_109 rfl hl (by decide) rfl (fun ls hl => ?_)
                  refine lv_iinc (v := nI (i + 1)) (lv' := [(4, .int (nI (i + 1))), (3, .int (nI (ctB (fun i => decide (c_mo S d i < 0)) (i + 1)))), (0, .ref (adr 30)), (1, .int (nI d)), (2, .int (nI 2))]) hx hb dX4_many_110 hl (k := 1) rfl (nI_1 _) (by decide) rfl (fun ls hl => ?_)
                  refine lv_goto (tgt := 51) hx hb dX4_many_113 (by decide) ?_
                  exact ih (i + 1) (by omega) (by omega) ls (lv_sub hl [0, 1, 2, 3, 4] rfl)
          exact L51 (c_ct S + 1) 0 (by omega) (by omega) ls (lv_sub hl [0, 1, 2, 3, 4] rfl)
      · have n36 : j = 1 := (nI_eq (a := j) (b := 1) (by omega) (by omega)).mp c36
        refine lv_aload_n hx hb dX4_many_39 rfl (lv_at hl 0 rfl) ?_
        refine va_get (D := D) (ci := 4) (v := .ref (adr 43)) (C := RX4) (T := TX4) (N := 16) hx hb hG inG_X4 hown hK hP 30 (wl_at (by omega) hM0) rfl 14 (by decide) (hG _ g_507) (fun _ h9 => h9) rfl dX4_many_40 ?_
        refine lv_iload_n hx hb dX4_many_43 rfl (lv_at hl 1 rfl) ?_
        refine wn_iald (j := d) hx hb hK hP (by omega) hM13 (by omega) (by decide) dX4_many_44 ?_
        have hk : k_many S (nI d) (nI j) = 0 := by unfold k_many; rw [n5, n15]; rfl
        exact W.iret (v := (c_mt S) d) hx hb hr (fun u9 ht _ => ⟨(by rw [hk, if_pos rfl]; exact congrArg (fun z => Outcome.returned (some (Value.int z))) (by unfold r_many; rw [nI_clamp (by omega), if_neg (by rw [show j = 1 from by omega]; decide), if_pos (by rw [show j = 1 from by omega]; rfl)])), F2, ⟨by rw [hk]; exact hR, h45⟩, by rw [ht]; exact hP, hS.F ht⟩) hS.2.2 dX4_many_45
    · have n15 : (inN ww 3) = false := bI_0.mp c15
      refine lv_iconst (v := 1) hx hb dX4_many_18 (by decide) ?_
      refine lv_goto (tgt := 23) hx hb dX4_many_19 (by decide) ?_
      refine lv_iconst (v := 0) hx hb dX4_many_23 (by decide) ?_
      refine lv_iconst (v := 0) hx hb dX4_many_24 (by decide) ?_
      refine lv_iconst (v := 0) hx hb dX4_many_25 (by decide) ?_
      refine wn_wV (rest := []) hx hb hml hown hG hN hP hS (cX4_throwing_w hAd hn hV hR true false false false) (cwV 4 hG (gV g_557 g_559 gp_X4_throwing g_5 g_560) rfl rfl rfl (by decide +kernel) ⟨Nat.le_of_ble_eq_true rfl, Nat.le_of_ble_eq_true rfl⟩) (by omega) hM0 rfl rfl hl.1 rfl (Nat.le_of_ble_eq_true rfl) dX4_many_26 ⟨Nat.le_of_ble_eq_true rfl, Nat.le_of_ble_eq_true rfl⟩ (fun F3 H locs hFF hP hS => ?_)
      obtain ⟨hR, fF⟩ := hFF
      have h45 : ∀ j, j < 30 ∨ 45 ≤ j → F3 j = E j := fun j hj => (fF j (by omega)).trans (h45 j hj)
      obtain ⟨hM0, hM1, hM2, hM3, hM4, hM5, hM6, hM7, hM8, hM9, hM10, hM11, hM12, hM13, hM14⟩ := id hR
      refine lv_if_eq (tgt := 34) hx hb dX4_many_29 (by decide) (fun c29 => absurd c29 (by decide)) (fun c29 => ?_)
      refine lv_iconst (v := 0) hx hb dX4_many_32 (by decide) ?_
      have hk : k_many S dd ww = 1 := by unfold k_many; first | (rw [n5]; rfl) | (rw [n15, Bool.and_false]; rfl)
      exact W.iret (v := 0) hx hb hr (fun u9 ht _ => ⟨(by rw [hk]; rfl), F3, ⟨by rw [hk]; exact hR, h45⟩, by rw [ht]; exact hP, hS.F ht⟩) hS.2.2 dX4_many_33

set_option maxHeartbeats 4000000 in
set_option maxRecDepth 100000 in
theorem cX4_same_w {l : Launch} {D : va_G} {cA : Nat → ClassId} {adr : Nat → Nat} {n : Nat} {E : Nat → va_E} {lo : Nat} (hAd : wd_ad lo n adr) {S : CS} {th : Int32} (hn : 45 ≤ n) (hV : Inv S) (hR : RepM cA adr S th E) (dd oo : Int32) : Met l yX4_same (.code yX4_same cX4_same 5 (some .boolean) :: lw_G) ({ frames := 2, cells := 0, slots := 0, locals := 46 } : Room) (va_Pc [.ref (adr 30), .int dd, .int oo] (wdU D (kty cA) adr n E)) (wq D lo adr n (some (.int (if k_same S dd oo = 0 then bI (r_same S dd oo) else 0))) (fun E2 => RepM cA adr (if k_same S dd oo = 0 then S else S) (nI (k_same S dd oo)) E2 ∧ ∀ j, j < 30 ∨ 45 ≤ j → E2 j = E j)) 0 0 (fun q => lo ≤ q) := by
  refine Met.ofW (cc := cX4_same) (maxL := 5) (ret := (some .boolean)) (by decide) rfl ?_
  intro p e s m args below meth c s₁ B hml hv
  obtain ⟨rfl, hP, hN⟩ := hv
  have hx := B.exec
  have hb := B.bytes
  have hr := B.returns
  have hG : ∀ w ∈ lw_G, w.before _ s = true := fun w h => atoms_spec (ws := _ :: lw_G) B.pre w (List.mem_cons_of_mem _ h)
  have hown : s.vm.findClass RX4 = some m.cls := findClass_of_methodNamed B.named
  have hlocks := B.notSynchronized
  have hK := hN.1
  have hS : va_S (fun q => lo ≤ q) s.heap s.heap [] := va_S.rf
  have hF : ∀ j, j ≠ 30 → E j = E j := fun j _ => rfl
  have hl := lv_entry ([.ref (adr 30), .int dd, .int oo]) (n := 5) (Nat.le_of_ble_eq_true rfl)
  rw [lg_entry_eq]
  generalize (lg_sl ([.ref (adr 30), .int dd, .int oo]) ++ List.replicate (5 - (lg_sl ([.ref (adr 30), .int dd, .int oo])).length) Slot.unset).toArray = ls at hl ⊢
  have hl : lv_has ls 5 [(0, .ref (adr 30)), (1, .int dd), (2, .int oo)] := hl
  obtain ⟨hM0, hM1, hM2, hM3, hM4, hM5, hM6, hM7, hM8, hM9, hM10, hM11, hM12, hM13, hM14⟩ := id hR
  obtain ⟨hct, hnm, htd, hmk, hlf, hnt, hnu, hcn, hmz, hmm, hib, hmr, hrise⟩ := id hV
  have h45 : ∀ j, j < 30 ∨ 45 ≤ j → E j = E j := fun _ _ => rfl
  refine lv_aload_n hx hb dX4_same_0 rfl (lv_at hl 0 rfl) ?_
  refine lv_iload_n hx hb dX4_same_1 rfl (lv_at hl 1 rfl) ?_
  refine wn_rS (rest := [.ref (adr 30)]) hx hb hml hown hG (cX4_isDesk_r _) (cwS 1 hG (gS g_573 g_574 g_5 g_575) rfl rfl rfl (by decide +kernel) ⟨Nat.le_of_ble_eq_true rfl, Nat.le_of_ble_eq_true rfl⟩) rfl hl.1 rfl (Nat.le_of_ble_eq_true rfl) dX4_same_2 ⟨Nat.le_of_ble_eq_true rfl, Nat.le_of_ble_eq_true rfl⟩ ?_
  refine lv_if_eq (tgt := 15) hx hb dX4_same_5 (by decide) (fun c5 => ?_) (fun c5 => ?_)
  · have n5 : (inN dd 3) = false := bI_0.mp c5
    refine lv_iconst (v := 1) hx hb dX4_same_15 (by decide) ?_
    refine lv_goto (tgt := 20) hx hb dX4_same_16 (by decide) ?_
    refine lv_iconst (v := 0) hx hb dX4_same_20 (by decide) ?_
    refine lv_iconst (v := 0) hx hb dX4_same_21 (by decide) ?_
    refine lv_iconst (v := 0) hx hb dX4_same_22 (by decide) ?_
    refine wn_wV (rest := []) hx hb hml hown hG hN hP hS (cX4_throwing_w hAd hn hV hR true false false false) (cwV 4 hG (gV g_557 g_559 gp_X4_throwing g_5 g_560) rfl rfl rfl (by decide +kernel) ⟨Nat.le_of_ble_eq_true rfl, Nat.le_of_ble_eq_true rfl⟩) (by omega) hM0 rfl rfl hl.1 rfl (Nat.le_of_ble_eq_true rfl) dX4_same_23 ⟨Nat.le_of_ble_eq_true rfl, Nat.le_of_ble_eq_true rfl⟩ (fun F1 H locs hFF hP hS => ?_)
    obtain ⟨hR, fF⟩ := hFF
    have h45 : ∀ j, j < 30 ∨ 45 ≤ j → F1 j = E j := fun j hj => (fF j (by omega)).trans (h45 j hj)
    obtain ⟨hM0, hM1, hM2, hM3, hM4, hM5, hM6, hM7, hM8, hM9, hM10, hM11, hM12, hM13, hM14⟩ := id hR
    refine lv_if_eq (tgt := 31) hx hb dX4_same_26 (by decide) (fun c26 => absurd c26 (by decide)) (fun c26 => ?_)
    refine lv_iconst (v := 0) hx hb dX4_same_29 (by decide) ?_
    have hk : k_same S dd oo = 1 := by unfold k_same; first | (rw [n5]; rfl) | (rw [n12, Bool.and_false]; rfl)
    exact W.zret (v := 0) hx hb hr (by first | rfl | exact bI_nar _) (fun u9 ht _ => ⟨(by rw [hk]; rfl), F1, ⟨by rw [hk]; exact hR, h45⟩, by rw [ht]; exact hP, hS.F ht⟩) hS.2.2 dX4_same_30
  · have n5 : (inN dd 3) = true := bI_1.mp c5
    refine lv_iload_n hx hb dX4_same_8 rfl (lv_at hl 2 rfl) ?_
    refine wn_rS (rest := [.ref (adr 30)]) hx hb hml hown hG (cX4_isDesk_r _) (cwS 1 hG (gS g_573 g_574 g_5 g_575) rfl rfl rfl (by decide +kernel) ⟨Nat.le_of_ble_eq_true rfl, Nat.le_of_ble_eq_true rfl⟩) rfl hl.1 rfl (Nat.le_of_ble_eq_true rfl) dX4_same_9 ⟨Nat.le_of_ble_eq_true rfl, Nat.le_of_ble_eq_true rfl⟩ ?_
    refine lv_if_ne (tgt := 19) hx hb dX4_same_12 (by decide) (fun c12 => ?_) (fun c12 => ?_)
    · have n12 : (inN oo 3) = true := bI_1.mp c12
      refine lv_iconst (v := 0) hx hb dX4_same_19 (by decide) ?_
      refine lv_iconst (v := 0) hx hb dX4_same_20 (by decide) ?_
      refine lv_iconst (v := 0) hx hb dX4_same_21 (by decide) ?_
      refine lv_iconst (v := 0) hx hb dX4_same_22 (by decide) ?_
      refine wn_wV (rest := []) hx hb hml hown hG hN hP hS (cX4_throwing_w hAd hn hV hR false false false false) (cwV 4 hG (gV g_557 g_559 gp_X4_throwing g_5 g_560) rfl rfl rfl (by decide +kernel) ⟨Nat.le_of_ble_eq_true rfl, Nat.le_of_ble_eq_true rfl⟩) (by omega) hM0 rfl rfl hl.1 rfl (Nat.le_of_ble_eq_true rfl) dX4_same_23 ⟨Nat.le_of_ble_eq_true rfl, Nat.le_of_ble_eq_true rfl⟩ (fun F2 H locs hFF hP hS => ?_)
      obtain ⟨hR, fF⟩ := hFF
      have h45 : ∀ j, j < 30 ∨ 45 ≤ j → F2 j = E j := fun j hj => (fF j (by omega)).trans (h45 j hj)
      obtain ⟨hM0, hM1, hM2, hM3, hM4, hM5, hM6, hM7, hM8, hM9, hM10, hM11, hM12, hM13, hM14⟩ := id hR
      refine lv_if_eq (tgt := 31) hx hb dX4_same_26 (by decide) (fun c26 => ?_) (fun c26 => absurd (by decide) c26)
      obtain ⟨d, hd, rfl⟩ := inN_of n5 (by decide)
      obtain ⟨o, ho, rfl⟩ := inN_of n12 (by decide)
      refine lv_iconst (v := 1) hx hb dX4_same_31 (by decide) ?_
      refine lv_istore_n (lv' := [(3, .int 1), (0, .ref (adr 30)), (1, .int (nI d)), (2, .int (nI o))]) hx hb dX4_same_32 rfl hl (by decide) rfl (fun ls hl => ?_)
      refine lv_iconst (v := 0) hx hb dX4_same_33 (by decide) ?_
      refine lv_istore (lv' := [(4, .int 0), (3, .int 1), (0, .ref (adr 30)), (1, .int (nI d)), (2, .int (nI o))]) hx hb dX4_same_34 hl (by decide) rfl (fun ls hl => ?_)
      have L36 : ∀ (f : Nat) (i : Nat) (q : Bool), c_ct S - i < f → i ≤ c_ct S → alB (fun i => c_see S d i == c_see S o i) i = q → ∀ ls : Array Slot, lv_has ls 5 [(4, .int (nI i)), (3, .int (bI q)), (0, .ref (adr 30)), (1, .int (nI d)), (2, .int (nI o))] → W p l e (headSpec (.code yX4_same cX4_same 5 (some .boolean) :: lw_G) ({ frames := 2, cells := 0, slots := 0, locals := 46 } : Room)).room s m [.ref (adr 30), .int (nI d), .int (nI o)].toArray below meth c H locs 0 0 (MQ below (wq D lo adr n (some (.int (if k_same S (nI d) (nI o) = 0 then bI (r_same S (nI d) (nI o)) else 0))) (fun E2 => RepM cA adr (if k_same S (nI d) (nI o) = 0 then S else S) (nI (k_same S (nI d) (nI o))) E2 ∧ ∀ j, j < 30 ∨ 45 ≤ j → E2 j = E j)) [.ref (adr 30), .int (nI d), .int (nI o)].toArray s 0 0 (fun q => lo ≤ q)) (F0 m 36 ls []) := by
        intro f
        induction f with
        | zero => intro i q h0; exact absurd h0 (by omega)
        | succ f ih =>
          intro i q hf hi hq ls hl
          refine lv_iload hx hb dX4_same_36 (lv_at hl 0 rfl) ?_
          refine lv_aload_n hx hb dX4_same_38 rfl (lv_at hl 2 rfl) ?_
          refine va_get (D := D) (ci := 4) (v := .int (nI (c_ct S))) (C := RX4) (T := TX4) (N := 16) hx hb hG inG_X4 hown hK hP 30 (wl_at (by omega) hM0) rfl 5 (by decide) (hG _ g_498) (fun _ h9 => h9) rfl dX4_same_39 ?_
          refine lv_icmp_ge (tgt := 90) hx hb dX4_same_42 (by decide) (fun c42 => ?_) (fun c42 => ?_)
          · have n42 : (c_ct S) ≤ i := (nI_leI (a := (c_ct S)) (b := i) (by omega) (by omega)).mp c42
            refine lv_iload_n hx hb dX4_same_90 rfl (lv_at hl 1 rfl) ?_
            have hk : k_same S (nI d) (nI o) = 0 := by unfold k_same; rw [n5, n12]; rfl
            exact W.zret (v := bI q) hx hb hr (by first | rfl | exact bI_nar _) (fun u9 ht _ => ⟨(by rw [hk, if_pos rfl]; exact congrArg (fun z => Outcome.returned (some (Value.int z))) (by unfold r_same; rw [nI_clamp (by omega), nI_clamp (by omega), show c_ct S = i from by omega, hq])), F2, ⟨by rw [hk]; exact hR, h45⟩, by rw [ht]; exact hP, hS.F ht⟩) hS.2.2 dX4_same_91
          · have n42 : ¬ (c_ct S) ≤ i := fun h7 => c42 ((nI_leI (a := (c_ct S)) (b := i) (by omega) (by omega)).mpr h7)
            refine lv_iload_n hx hb dX4_same_45 rfl (lv_at hl 1 rfl) ?_
            refine lv_if_eq (tgt := 82) hx hb dX4_same_46 (by decide) (fun c46 => ?_) (fun c46 => ?_)
            · have n46 : q = false := bI_0.mp c46
              refine lv_iconst (v := 0) hx hb dX4_same_82 (by decide) ?_
              refine lv_istore_n (lv' := [(3, .int 0), (4, .int (nI i)), (0, .ref (adr 30)), (1, .int (nI d)), (2, .int (nI o))]) hx hb dX4_same_83 rfl hl (by decide) rfl (fun ls hl => ?_)
              refine lv_iinc (v := nI (i + 1)) (lv' := [(4, .int (nI (i + 1))), (3, .int 0), (0, .ref (adr 30)), (1, .int (nI d)), (2, .int (nI o))]) hx hb dX4_same_84 hl (k := 1) rfl (nI_1 _) (by decide) rfl (fun ls hl => ?_)
              refine lv_goto (tgt := 36) hx hb dX4_same_87 (by decide) ?_
              exact ih (i + 1) false (by omega) (by omega) (by show (alB (fun i => c_see S d i == c_see S o i) i && (c_see S d i == c_see S o i)) = _; rw [hq]; first | (rw [n46]; rfl) | (rw [bI_e0 c75, Bool.and_false])) ls (lv_sub hl [0, 1, 2, 3, 4] rfl)
            · have n46 : q = true := bI_1.mp c46
              refine lv_aload_n hx hb dX4_same_49 rfl (lv_at hl 2 rfl) ?_
              refine lv_iload_n hx hb dX4_same_50 rfl (lv_at hl 3 rfl) ?_
              refine lv_iload hx hb dX4_same_51 (lv_at hl 0 rfl) ?_
              refine lv_aload_n hx hb dX4_same_53 rfl (lv_at hl 2 rfl) ?_
              refine va_get (D := D) (ci := 4) (v := .ref (adr 43)) (C := RX4) (T := TX4) (N := 16) hx hb hG inG_X4 hown hK hP 30 (wl_at (by omega) hM0) rfl 14 (by decide) (hG _ g_507) (fun _ h9 => h9) rfl dX4_same_54 ?_
              refine lv_iload_n hx hb dX4_same_57 rfl (lv_at hl 3 rfl) ?_
              refine wn_iald (j := d) hx hb hK hP (by omega) hM13 (by omega) (by decide) dX4_same_58 ?_
              refine wn_rV (rest := []) hx hb hml hown hG hN hP (cX4_sees_r hn hV hR (d := d) (j := i) hd (by omega) (c_mt S d)) (cwV 3 hG (gV g_611 g_613 gp_X4_sees g_5 g_614) rfl rfl rfl (by decide +kernel) ⟨Nat.le_of_ble_eq_true rfl, Nat.le_of_ble_eq_true rfl⟩) (by omega) hM0 rfl rfl hl.1 rfl (Nat.le_of_ble_eq_true rfl) dX4_same_59 ⟨Nat.le_of_ble_eq_true rfl, Nat.le_of_ble_eq_true rfl⟩ ?_
              refine lv_topi (fun y9 e9 => ?_)
              have e9 : y9 = bI (c_see S d i) := e9.trans (congrArg bI (had_see hV hd))
              subst e9
              refine lv_aload_n hx hb dX4_same_62 rfl (lv_at hl 2 rfl) ?_
              refine lv_iload_n hx hb dX4_same_63 rfl (lv_at hl 4 rfl) ?_
              refine lv_iload hx hb dX4_same_64 (lv_at hl 0 rfl) ?_
              refine lv_aload_n hx hb dX4_same_66 rfl (lv_at hl 2 rfl) ?_
              refine va_get (D := D) (ci := 4) (v := .ref (adr 43)) (C := RX4) (T := TX4) (N := 16) hx hb hG inG_X4 hown hK hP 30 (wl_at (by omega) hM0) rfl 14 (by decide) (hG _ g_507) (fun _ h9 => h9) rfl dX4_same_67 ?_
              refine lv_iload_n hx hb dX4_same_70 rfl (lv_at hl 4 rfl) ?_
              refine wn_iald (j := o) hx hb hK hP (by omega) hM13 (by omega) (by decide) dX4_same_71 ?_
              refine wn_rV (rest := [.int (bI (c_see S d i))]) hx hb hml hown hG hN hP (cX4_sees_r hn hV hR (d := o) (j := i) ho (by omega) (c_mt S o)) (cwV 3 hG (gV g_611 g_613 gp_X4_sees g_5 g_614) rfl rfl rfl (by decide +kernel) ⟨Nat.le_of_ble_eq_true rfl, Nat.le_of_ble_eq_true rfl⟩) (by omega) hM0 rfl rfl hl.1 rfl (Nat.le_of_ble_eq_true rfl) dX4_same_72 ⟨Nat.le_of_ble_eq_true rfl, Nat.le_of_ble_eq_true rfl⟩ ?_
              refine lv_topi (fun y9 e9 => ?_)
              have e9 : y9 = bI (c_see S o i) := e9.trans (congrArg bI (had_see hV ho))
              subst e9
              refine lv_icmp_ne (tgt := 82) hx hb dX4_same_75 (by decide) (fun c75 => ?_) (fun c75 => ?_)
              · refine lv_iconst (v := 0) hx hb dX4_same_82 (by decide) ?_
                refine lv_istore_n (lv' := [(3, .int 0), (4, .int (nI i)), (0, .ref (adr 30)), (1, .int (nI d)), (2, .int (nI o))]) hx hb dX4_same_83 rfl hl (by decide) rfl (fun ls hl => ?_)
                refine lv_iinc (v := nI (i + 1)) (lv' := [(4, .int (nI (i + 1))), (3, .int 0), (0, .ref (adr 30)), (1, .int (nI d)), (2, .int (nI o))]) hx hb dX4_same_84 hl (k := 1) rfl (nI_1 _) (by decide) rfl (fun ls hl => ?_)
                refine lv_goto (tgt := 36) hx hb dX4_same_87 (by decide) ?_
                exact ih (i + 1) false (by omega) (by omega) (by show (alB (fun i => c_see S d i == c_see S o i) i && (c_see S d i == c_see S o i)) = _; rw [hq]; first | (rw [n46]; rfl) | (rw [bI_e0 c75, Bool.and_false])) ls (lv_sub hl [0, 1, 2, 3, 4] rfl)
              · refine lv_iconst (v := 1) hx hb dX4_same_78 (by decide) ?_
                refine lv_goto (tgt := 83) hx hb dX4_same_79 (by decide) ?_
                refine lv_istore_n (lv' := [(3, .int 1), (4, .int (nI i)), (0, .ref (adr 30)), (1, .int (nI d)), (2, .int (nI o))]) hx hb dX4_same_83 rfl hl (by decide) rfl (fun ls hl => ?_)
                refine lv_iinc (v := nI (i + 1)) (lv' := [(4, .int (nI (i + 1))), (3, .int 1), (0, .ref (adr 30)), (1, .int (nI d)), (2, .int (nI o))]) hx hb dX4_same_84 hl (k := 1) rfl (nI_1 _) (by decide) rfl (fun ls hl => ?_)
                refine lv_goto (tgt := 36) hx hb dX4_same_87 (by decide) ?_
                exact ih (i + 1) true (by omega) (by omega) (by show (alB (fun i => c_see S d i == c_see S o i) i && (c_see S d i == c_see S o i)) = _; rw [hq, n46, bI_e1 c75]; rfl) ls (lv_sub hl [0, 1, 2, 3, 4] rfl)
      exact L36 (c_ct S + 1) 0 true (by omega) (by omega) rfl ls (lv_sub hl [0, 1, 2, 3, 4] rfl)
    · have n12 : (inN oo 3) = false := bI_0.mp c12
      refine lv_iconst (v := 1) hx hb dX4_same_15 (by decide) ?_
      refine lv_goto (tgt := 20) hx hb dX4_same_16 (by decide) ?_
      refine lv_iconst (v := 0) hx hb dX4_same_20 (by decide) ?_
      refine lv_iconst (v := 0) hx hb dX4_same_21 (by decide) ?_
      refine lv_iconst (v := 0) hx hb dX4_same_22 (by decide) ?_
      refine wn_wV (rest := []) hx hb hml hown hG hN hP hS (cX4_throwing_w hAd hn hV hR true false false false) (cwV 4 hG (gV g_557 g_559 gp_X4_throwing g_5 g_560) rfl rfl rfl (by decide +kernel) ⟨Nat.le_of_ble_eq_true rfl, Nat.le_of_ble_eq_true rfl⟩) (by omega) hM0 rfl rfl hl.1 rfl (Nat.le_of_ble_eq_true rfl) dX4_same_23 ⟨Nat.le_of_ble_eq_true rfl, Nat.le_of_ble_eq_true rfl⟩ (fun F3 H locs hFF hP hS => ?_)
      obtain ⟨hR, fF⟩ := hFF
      have h45 : ∀ j, j < 30 ∨ 45 ≤ j → F3 j = E j := fun j hj => (fF j (by omega)).trans (h45 j hj)
      obtain ⟨hM0, hM1, hM2, hM3, hM4, hM5, hM6, hM7, hM8, hM9, hM10, hM11, hM12, hM13, hM14⟩ := id hR
      refine lv_if_eq (tgt := 31) hx hb dX4_same_26 (by decide) (fun c26 => absurd c26 (by decide)) (fun c26 => ?_)
      refine lv_iconst (v := 0) hx hb dX4_same_29 (by decide) ?_
      have hk : k_same S dd oo = 1 := by unfold k_same; first | (rw [n5]; rfl) | (rw [n12, Bool.and_false]; rfl)
      exact W.zret (v := 0) hx hb hr (by first | rfl | exact bI_nar _) (fun u9 ht _ => ⟨(by rw [hk]; rfl), F3, ⟨by rw [hk]; exact hR, h45⟩, by rw [ht]; exact hP, hS.F ht⟩) hS.2.2 dX4_same_30
