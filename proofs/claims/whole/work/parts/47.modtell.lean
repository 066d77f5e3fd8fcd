theorem ix_le {S : CS} {t b : Nat} {v : Int32} : t_ix S t b v ≤ c_ct S := by
  unfold t_ix
  cases hf : t_fd S t b v with
  | none => exact Nat.le_refl _
  | some z => have := (fiB_spec hf).1; simp; omega
set_option maxHeartbeats 4000000 in
set_option maxRecDepth 100000 in
theorem cX4_tell_w {l : Launch} {D : va_G} {cA : Nat → ClassId} {adr : Nat → Nat} {n : Nat} {E : Nat → va_E} {lo : Nat} (hAd : wd_ad lo n adr) {S : CS} {th : Int32} (hn : 45 ≤ n) (hV : Inv S) (hR : RepM cA adr S th E) (h2 : Inv2 S) (dd tt : Int32) (x : Int64) (v : Int32) : Met l yX4_tell (.code yX4_tell cX4_tell 14 (some .int) :: lw_G) ({ frames := 2, cells := 0, slots := 0, locals := 43 } : Room) (va_Pc [.ref (adr 30), .int dd, .int tt, .long x, .int v] (wdU D (kty cA) adr n E)) (wq D lo adr n (some (.int (if k_tell S dd tt x v = 0 then r_tell S dd.toNatClampNeg tt.toNatClampNeg (tN x) v else 0))) (fun E2 => RepM cA adr (if k_tell S dd tt x v = 0 then s_tell S dd.toNatClampNeg tt.toNatClampNeg (tN x) v else S) (nI (k_tell S dd tt x v)) E2 ∧ ∀ j, j < 30 ∨ 45 ≤ j → E2 j = E j)) 0 0 (fun q => lo ≤ q) := by
  refine Met.ofW (cc := cX4_tell) (maxL := 14) (ret := (some .int)) (by decide) rfl ?_
  intro p e s m args below meth c s₁ B hml hv
  obtain ⟨rfl, hP, hN⟩ := hv
  have hx := B.exec
  have hb := B.bytes
  have hr := B.returns
  have hG : ∀ w ∈ lw_G, w.before _ s = true := fun w h => atoms_spec (ws := _ :: lw_G) B.pre w (List.mem_cons_of_mem _ h)
  have hown : s.vm.findClass RX4 = some m.cls := findClass_of_methodNamed B.named
  have hlocks := B.notSynchronized
  have hK := hN.1
  have hS : va_S (fun q => lo ≤ q) s.heap s.heap [] := va_S.rf
  have hF : ∀ j, j ≠ 30 → E j = E j := fun j _ => rfl
  have hl := lv_entry ([.ref (adr 30), .int dd, .int tt, .long x, .int v]) (n := 14) (Nat.le_of_ble_eq_true rfl)
  rw [lg_entry_eq]
  generalize (lg_sl ([.ref (adr 30), .int dd, .int tt, .long x, .int v]) ++ List.replicate (14 - (lg_sl ([.ref (adr 30), .int dd, .int tt, .long x, .int v])).length) Slot.unset).toArray = ls at hl ⊢
  have hl : lv_has ls 14 [(0, .ref (adr 30)), (1, .int dd), (2, .int tt), (3, .long x), (5, .int v)] := hl
  obtain ⟨hM0, hM1, hM2, hM3, hM4, hM5, hM6, hM7, hM8, hM9, hM10, hM11, hM12, hM13, hM14⟩ := id hR
  obtain ⟨hct, hnm, htd, hmk, hlf, hnt, hnu, hcn, hmz, hmm, hib, hmr, hrise⟩ := id hV
  have h45 : ∀ j, j < 30 ∨ 45 ≤ j → E j = E j := fun _ _ => rfl
  obtain ⟨b, hbx⟩ : ∃ b, b = tN x % 2 ^ 30 := ⟨_, rfl⟩
  have hb3 : b < 2 ^ 30 := by rw [hbx]; exact Nat.mod_lt _ (by decide)
  refine lv_iload_n hx hb dX4_tell_0 rfl (lv_at hl 1 rfl) ?_
  refine wn_rS (rest := []) hx hb hml hown hG (cX4_isDesk_r _) (cwS 1 hG (gS g_573 g_574 g_5 g_575) rfl rfl rfl (by decide +kernel) ⟨Nat.le_of_ble_eq_true rfl, Nat.le_of_ble_eq_true rfl⟩) rfl hl.1 rfl (Nat.le_of_ble_eq_true rfl) dX4_tell_1 ⟨Nat.le_of_ble_eq_true rfl, Nat.le_of_ble_eq_true rfl⟩ ?_
  refine lv_if_eq (tgt := 14) hx hb dX4_tell_4 (by decide) (fun c4 => ?_) (fun c4 => ?_)
  · have n4 : (inN dd 3) = false := bI_0.mp c4
    refine lv_iconst (v := 1) hx hb dX4_tell_14 (by decide) ?_
    refine lv_goto (tgt := 19) hx hb dX4_tell_15 (by decide) ?_
    refine lv_istore (lv' := [(6, .int 1), (0, .ref (adr 30)), (1, .int dd), (2, .int tt), (3, .long x), (5, .int v)]) hx hb dX4_tell_19 hl (by decide) rfl (fun ls hl => ?_)
    refine lv_lload_n hx hb dX4_tell_21 rfl (lv_at hl 4 rfl) ?_
    refine lv_ldc2 hx hb hown (hG _ g_576) dX4_tell_22 ?_
    refine lv_land hx hb dX4_tell_25 ?_
    refine lv_l2i (v := (x &&& 1048575).toInt32) hx hb dX4_tell_26 rfl ?_
    refine lv_topi (fun y9 e9 => ?_)
    have e9 : y9 = nI (b % 2 ^ 20) := e9.trans ((td_lo x 1048575 20 (by decide) (by decide)).trans (congrArg nI (by rw [hbx]; omega)))
    subst e9
    refine lv_istore (lv' := [(7, .int (nI (b % 2 ^ 20))), (6, .int 1), (0, .ref (adr 30)), (1, .int dd), (2, .int tt), (3, .long x), (5, .int v)]) hx hb dX4_tell_27 hl (by decide) rfl (fun ls hl => ?_)
    refine lv_lload_n hx hb dX4_tell_29 rfl (lv_at hl 5 rfl) ?_
    refine lv_bipush (v := 20) hx hb dX4_tell_30 (by decide) ?_
    refine lv_lshr (v := x >>> ((20 : Int32).toInt64 &&& 63)) hx hb dX4_tell_32 rfl ?_
    refine lv_ldc2 hx hb hown (hG _ g_577) dX4_tell_33 ?_
    refine lv_land hx hb dX4_tell_36 ?_
    refine lv_l2i (v := ((x >>> ((20 : Int32).toInt64 &&& 63)) &&& 7).toInt32) hx hb dX4_tell_37 rfl ?_
    refine lv_topi (fun y9 e9 => ?_)
    have e9 : y9 = nI (b / 2 ^ 20 % 8) := e9.trans ((td_bits x 20 7 20 3 (by decide) (by decide) (by decide) (by decide)).trans (congrArg nI (by rw [hbx]; omega)))
    subst e9
    refine lv_istore (lv' := [(8, .int (nI (b / 2 ^ 20 % 8))), (7, .int (nI (b % 2 ^ 20))), (6, .int 1), (0, .ref (adr 30)), (1, .int dd), (2, .int tt), (3, .long x), (5, .int v)]) hx hb dX4_tell_38 hl (by decide) rfl (fun ls hl => ?_)
    refine lv_lload_n hx hb dX4_tell_40 rfl (lv_at hl 6 rfl) ?_
    refine lv_bipush (v := 23) hx hb dX4_tell_41 (by decide) ?_
    refine lv_lshr (v := x >>> ((23 : Int32).toInt64 &&& 63)) hx hb dX4_tell_43 rfl ?_
    refine lv_ldc2 hx hb hown (hG _ g_578) dX4_tell_44 ?_
    refine lv_land hx hb dX4_tell_47 ?_
    refine lv_l2i (v := ((x >>> ((23 : Int32).toInt64 &&& 63)) &&& 127).toInt32) hx hb dX4_tell_48 rfl ?_
    refine lv_topi (fun y9 e9 => ?_)
    have e9 : y9 = nI (b / 2 ^ 23 % 128) := e9.trans ((td_bits x 23 127 23 7 (by decide) (by decide) (by decide) (by decide)).trans (congrArg nI (by rw [hbx]; omega)))
    subst e9
    refine lv_istore (lv' := [(9, .int (nI (b / 2 ^ 23 % 128))), (8, .int (nI (b / 2 ^ 20 % 8))), (7, .int (nI (b % 2 ^ 20))), (6, .int 1), (0, .ref (adr 30)), (1, .int dd), (2, .int tt), (3, .long x), (5, .int v)]) hx hb dX4_tell_49 hl (by decide) rfl (fun ls hl => ?_)
    refine lv_iload hx hb dX4_tell_51 (lv_at hl 2 rfl) ?_
    refine lv_ldc hx hb hown (hG _ g_556) dX4_tell_53 ?_
    refine lv_icmp_gt (tgt := 74) hx hb dX4_tell_55 (by decide) (fun c55 => ?_) (fun c55 => ?_)
    · have n55 : 1000000 < (b % 2 ^ 20) := (nI_ltI (a := 1000000) (b := (b % 2 ^ 20)) (by omega) (by omega)).mp c55
      have hok : tOK x = false := by unfold tOK; rw [decide_eq_false (show ¬ tN x % 2 ^ 20 < 1000001 by rw [hbx] at n55; omega)]; simp
      refine lv_iconst (v := 1) hx hb dX4_tell_74 (by decide) ?_
      refine lv_goto (tgt := 79) hx hb dX4_tell_75 (by decide) ?_
      refine lv_istore (lv' := [(10, .int 1), (9, .int (nI (b / 2 ^ 23 % 128))), (8, .int (nI (b / 2 ^ 20 % 8))), (7, .int (nI (b % 2 ^ 20))), (6, .int 1), (0, .ref (adr 30)), (1, .int dd), (2, .int tt), (3, .long x), (5, .int v)]) hx hb dX4_tell_79 hl (by decide) rfl (fun ls hl => ?_)
      refine lv_iload hx hb dX4_tell_81 (lv_at hl 4 rfl) ?_
      refine lv_if_eq (tgt := 90) hx hb dX4_tell_83 (by decide) (fun c83 => absurd c83 (by decide)) (fun c83 => ?_)
      refine lv_iconst (v := 0) hx hb dX4_tell_86 (by decide) ?_
      refine lv_goto (tgt := 103) hx hb dX4_tell_87 (by decide) ?_
      refine lv_istore (lv' := [(11, .int 0), (10, .int 1), (9, .int (nI (b / 2 ^ 23 % 128))), (8, .int (nI (b / 2 ^ 20 % 8))), (7, .int (nI (b % 2 ^ 20))), (6, .int 1), (0, .ref (adr 30)), (1, .int dd), (2, .int tt), (3, .long x), (5, .int v)]) hx hb dX4_tell_103 hl (by decide) rfl (fun ls hl => ?_)
      refine lv_aload_n hx hb dX4_tell_105 rfl (lv_at hl 6 rfl) ?_
      refine lv_iload hx hb dX4_tell_106 (lv_at hl 5 rfl) ?_
      refine lv_iload hx hb dX4_tell_108 (lv_at hl 1 rfl) ?_
      refine lv_iload hx hb dX4_tell_110 (lv_at hl 5 rfl) ?_
      refine lv_if_ne (tgt := 126) hx hb dX4_tell_112 (by decide) (fun c112 => ?_) (fun c112 => absurd c112 (by decide))
      refine lv_iconst (v := 0) hx hb dX4_tell_126 (by decide) ?_
      refine lv_iconst (v := 0) hx hb dX4_tell_127 (by decide) ?_
      refine wn_wV (rest := []) hx hb hml hown hG hN hP hS (cX4_throwing_w hAd hn hV hR true true false false) (cwV 4 hG (gV g_557 g_559 gp_X4_throwing g_5 g_560) rfl rfl rfl (by decide +kernel) ⟨Nat.le_of_ble_eq_true rfl, Nat.le_of_ble_eq_true rfl⟩) (by omega) hM0 rfl rfl hl.1 rfl (Nat.le_of_ble_eq_true rfl) dX4_tell_128 ⟨Nat.le_of_ble_eq_true rfl, Nat.le_of_ble_eq_true rfl⟩ (fun F1 H locs hFF hP hS => ?_)
      obtain ⟨hR, fF⟩ := hFF
      have h45 : ∀ j, j < 30 ∨ 45 ≤ j → F1 j = E j := fun j hj => (fF j (by omega)).trans (h45 j hj)
      obtain ⟨hM0, hM1, hM2, hM3, hM4, hM5, hM6, hM7, hM8, hM9, hM10, hM11, hM12, hM13, hM14⟩ := id hR
      refine lv_if_eq (tgt := 136) hx hb dX4_tell_131 (by decide) (fun c131 => absurd c131 (by decide)) (fun c131 => ?_)
      refine lv_iconst (v := 0) hx hb dX4_tell_134 (by decide) ?_
      have hk : k_tell S dd tt x v = 1 := by unfold k_tell; first | (rw [n4]; rfl) | (rw [n11, Bool.and_false]; rfl)
      exact W.iret (v := 0) hx hb hr (fun u9 ht _ => ⟨(by rw [hk]; rfl), F1, ⟨by rw [hk]; exact hR, h45⟩, by rw [ht]; exact hP, hS.F ht⟩) hS.2.2 dX4_tell_135
    · have n55 : ¬ 1000000 < (b % 2 ^ 20) := fun h7 => c55 ((nI_ltI (a := 1000000) (b := (b % 2 ^ 20)) (by omega) (by omega)).mpr h7)
      refine lv_iload hx hb dX4_tell_58 (lv_at hl 0 rfl) ?_
      refine lv_bipush (v := 99) hx hb dX4_tell_60 (by decide) ?_
      refine lv_icmp_gt (tgt := 74) hx hb dX4_tell_62 (by decide) (fun c62 => ?_) (fun c62 => ?_)
      · have n62 : 99 < (b / 2 ^ 23 % 128) := (nI_ltI (a := 99) (b := (b / 2 ^ 23 % 128)) (by omega) (by omega)).mp c62
        have hok : tOK x = false := by unfold tOK; rw [decide_eq_false (show ¬ tN x / 2 ^ 23 % 128 < 100 by rw [hbx] at n62; omega)]; simp
        refine lv_iconst (v := 1) hx hb dX4_tell_74 (by decide) ?_
        refine lv_goto (tgt := 79) hx hb dX4_tell_75 (by decide) ?_
        refine lv_istore (lv' := [(10, .int 1), (9, .int (nI (b / 2 ^ 23 % 128))), (8, .int (nI (b / 2 ^ 20 % 8))), (7, .int (nI (b % 2 ^ 20))), (6, .int 1), (0, .ref (adr 30)), (1, .int dd), (2, .int tt), (3, .long x), (5, .int v)]) hx hb dX4_tell_79 hl (by decide) rfl (fun ls hl => ?_)
        refine lv_iload hx hb dX4_tell_81 (lv_at hl 4 rfl) ?_
        refine lv_if_eq (tgt := 90) hx hb dX4_tell_83 (by decide) (fun c83 => absurd c83 (by decide)) (fun c83 => ?_)
        refine lv_iconst (v := 0) hx hb dX4_tell_86 (by decide) ?_
        refine lv_goto (tgt := 103) hx hb dX4_tell_87 (by decide) ?_
        refine lv_istore (lv' := [(11, .int 0), (10, .int 1), (9, .int (nI (b / 2 ^ 23 % 128))), (8, .int (nI (b / 2 ^ 20 % 8))), (7, .int (nI (b % 2 ^ 20))), (6, .int 1), (0, .ref (adr 30)), (1, .int dd), (2, .int tt), (3, .long x), (5, .int v)]) hx hb dX4_tell_103 hl (by decide) rfl (fun ls hl => ?_)
        refine lv_aload_n hx hb dX4_tell_105 rfl (lv_at hl 6 rfl) ?_
        refine lv_iload hx hb dX4_tell_106 (lv_at hl 5 rfl) ?_
        refine lv_iload hx hb dX4_tell_108 (lv_at hl 1 rfl) ?_
        refine lv_iload hx hb dX4_tell_110 (lv_at hl 5 rfl) ?_
        refine lv_if_ne (tgt := 126) hx hb dX4_tell_112 (by decide) (fun c112 => ?_) (fun c112 => absurd c112 (by decide))
        refine lv_iconst (v := 0) hx hb dX4_tell_126 (by decide) ?_
        refine lv_iconst (v := 0) hx hb dX4_tell_127 (by decide) ?_
        refine wn_wV (rest := []) hx hb hml hown hG hN hP hS (cX4_throwing_w hAd hn hV hR true true false false) (cwV 4 hG (gV g_557 g_559 gp_X4_throwing g_5 g_560) rfl rfl rfl (by decide +kernel) ⟨Nat.le_of_ble_eq_true rfl, Nat.le_of_ble_eq_true rfl⟩) (by omega) hM0 rfl rfl hl.1 rfl (Nat.le_of_ble_eq_true rfl) dX4_tell_128 ⟨Nat.le_of_ble_eq_true rfl, Nat.le_of_ble_eq_true rfl⟩ (fun F2 H locs hFF hP hS => ?_)
        obtain ⟨hR, fF⟩ := hFF
        have h45 : ∀ j, j < 30 ∨ 45 ≤ j → F2 j = E j := fun j hj => (fF j (by omega)).trans (h45 j hj)
        obtain ⟨hM0, hM1, hM2, hM3, hM4, hM5, hM6, hM7, hM8, hM9, hM10, hM11, hM12, hM13, hM14⟩ := id hR
        refine lv_if_eq (tgt := 136) hx hb dX4_tell_131 (by decide) (fun c131 => absurd c131 (by decide)) (fun c131 => ?_)
        refine lv_iconst (v := 0) hx hb dX4_tell_134 (by decide) ?_
        have hk : k_tell S dd tt x v = 1 := by unfold k_tell; first | (rw [n4]; rfl) | (rw [n11, Bool.and_false]; rfl)
        exact W.iret (v := 0) hx hb hr (fun u9 ht _ => ⟨(by rw [hk]; rfl), F2, ⟨by rw [hk]; exact hR, h45⟩, by rw [ht]; exact hP, hS.F ht⟩) hS.2.2 dX4_tell_135
      · have n62 : ¬ 99 < (b / 2 ^ 23 % 128) := fun h7 => c62 ((nI_ltI (a := 99) (b := (b / 2 ^ 23 % 128)) (by omega) (by omega)).mpr h7)
        refine lv_lload_n hx hb dX4_tell_65 rfl (lv_at hl 7 rfl) ?_
        refine lv_bipush (v := 30) hx hb dX4_tell_66 (by decide) ?_
        refine lv_lshr (v := x >>> ((30 : Int32).toInt64 &&& 63)) hx hb dX4_tell_68 rfl ?_
        refine lv_lconst (v := 0) hx hb dX4_tell_69 (by decide) ?_
        refine W.lcmp hx hb dX4_tell_70 ?_
        refine lv_if_eq (tgt := 78) hx hb dX4_tell_71 (by decide) (fun c71 => ?_) (fun c71 => ?_)
        · have h30 : tN x < 2 ^ 30 := (td_hi x 30 (by decide)).mp ((lg_cmp_eq _ _).mp c71)
          have hbt : b = tN x := by rw [hbx]; omega
          have hok : tOK x = true := by unfold tOK; rw [decide_eq_true h30, decide_eq_true (show tN x % 2 ^ 20 < 1000001 by rw [hbt] at n55; omega), decide_eq_true (show tN x / 2 ^ 23 % 128 < 100 by rw [hbt] at n62; omega)]; rfl
          refine lv_iconst (v := 0) hx hb dX4_tell_78 (by decide) ?_
          refine lv_istore (lv' := [(10, .int 0), (9, .int (nI (b / 2 ^ 23 % 128))), (8, .int (nI (b / 2 ^ 20 % 8))), (7, .int (nI (b % 2 ^ 20))), (6, .int 1), (0, .ref (adr 30)), (1, .int dd), (2, .int tt), (3, .long x), (5, .int v)]) hx hb dX4_tell_79 hl (by decide) rfl (fun ls hl => ?_)
          refine lv_iload hx hb dX4_tell_81 (lv_at hl 4 rfl) ?_
          refine lv_if_eq (tgt := 90) hx hb dX4_tell_83 (by decide) (fun c83 => absurd c83 (by decide)) (fun c83 => ?_)
          refine lv_iconst (v := 0) hx hb dX4_tell_86 (by decide) ?_
          refine lv_goto (tgt := 103) hx hb dX4_tell_87 (by decide) ?_
          refine lv_istore (lv' := [(11, .int 0), (10, .int 0), (9, .int (nI (b / 2 ^ 23 % 128))), (8, .int (nI (b / 2 ^ 20 % 8))), (7, .int (nI (b % 2 ^ 20))), (6, .int 1), (0, .ref (adr 30)), (1, .int dd), (2, .int tt), (3, .long x), (5, .int v)]) hx hb dX4_tell_103 hl (by decide) rfl (fun ls hl => ?_)
          refine lv_aload_n hx hb dX4_tell_105 rfl (lv_at hl 6 rfl) ?_
          refine lv_iload hx hb dX4_tell_106 (lv_at hl 5 rfl) ?_
          refine lv_iload hx hb dX4_tell_108 (lv_at hl 1 rfl) ?_
          refine lv_iload hx hb dX4_tell_110 (lv_at hl 5 rfl) ?_
          refine lv_if_ne (tgt := 126) hx hb dX4_tell_112 (by decide) (fun c112 => ?_) (fun c112 => absurd c112 (by decide))
          refine lv_iconst (v := 0) hx hb dX4_tell_126 (by decide) ?_
          refine lv_iconst (v := 0) hx hb dX4_tell_127 (by decide) ?_
          refine wn_wV (rest := []) hx hb hml hown hG hN hP hS (cX4_throwing_w hAd hn hV hR true false false false) (cwV 4 hG (gV g_557 g_559 gp_X4_throwing g_5 g_560) rfl rfl rfl (by decide +kernel) ⟨Nat.le_of_ble_eq_true rfl, Nat.le_of_ble_eq_true rfl⟩) (by omega) hM0 rfl rfl hl.1 rfl (Nat.le_of_ble_eq_true rfl) dX4_tell_128 ⟨Nat.le_of_ble_eq_true rfl, Nat.le_of_ble_eq_true rfl⟩ (fun F3 H locs hFF hP hS => ?_)
          obtain ⟨hR, fF⟩ := hFF
          have h45 : ∀ j, j < 30 ∨ 45 ≤ j → F3 j = E j := fun j hj => (fF j (by omega)).trans (h45 j hj)
          obtain ⟨hM0, hM1, hM2, hM3, hM4, hM5, hM6, hM7, hM8, hM9, hM10, hM11, hM12, hM13, hM14⟩ := id hR
          refine lv_if_eq (tgt := 136) hx hb dX4_tell_131 (by decide) (fun c131 => absurd c131 (by decide)) (fun c131 => ?_)
          refine lv_iconst (v := 0) hx hb dX4_tell_134 (by decide) ?_
          have hk : k_tell S dd tt x v = 1 := by unfold k_tell; first | (rw [n4]; rfl) | (rw [n11, Bool.and_false]; rfl)
          exact W.iret (v := 0) hx hb hr (fun u9 ht _ => ⟨(by rw [hk]; rfl), F3, ⟨by rw [hk]; exact hR, h45⟩, by rw [ht]; exact hP, hS.F ht⟩) hS.2.2 dX4_tell_135
        · have hok : tOK x = false := by unfold tOK; rw [decide_eq_false (show ¬ tN x < 2 ^ 30 from fun h9 => c71 ((lg_cmp_eq _ _).mpr ((td_hi x 30 (by decide)).mpr h9)))]; simp
          refine lv_iconst (v := 1) hx hb dX4_tell_74 (by decide) ?_
          refine lv_goto (tgt := 79) hx hb dX4_tell_75 (by decide) ?_
          refine lv_istore (lv' := [(10, .int 1), (9, .int (nI (b / 2 ^ 23 % 128))), (8, .int (nI (b / 2 ^ 20 % 8))), (7, .int (nI (b % 2 ^ 20))), (6, .int 1), (0, .ref (adr 30)), (1, .int dd), (2, .int tt), (3, .long x), (5, .int v)]) hx hb dX4_tell_79 hl (by decide) rfl (fun ls hl => ?_)
          refine lv_iload hx hb dX4_tell_81 (lv_at hl 4 rfl) ?_
          refine lv_if_eq (tgt := 90) hx hb dX4_tell_83 (by decide) (fun c83 => absurd c83 (by decide)) (fun c83 => ?_)
          refine lv_iconst (v := 0) hx hb dX4_tell_86 (by decide) ?_
          refine lv_goto (tgt := 103) hx hb dX4_tell_87 (by decide) ?_
          refine lv_istore (lv' := [(11, .int 0), (10, .int 1), (9, .int (nI (b / 2 ^ 23 % 128))), (8, .int (nI (b / 2 ^ 20 % 8))), (7, .int (nI (b % 2 ^ 20))), (6, .int 1), (0, .ref (adr 30)), (1, .int dd), (2, .int tt), (3, .long x), (5, .int v)]) hx hb dX4_tell_103 hl (by decide) rfl (fun ls hl => ?_)
          refine lv_aload_n hx hb dX4_tell_105 rfl (lv_at hl 6 rfl) ?_
          refine lv_iload hx hb dX4_tell_106 (lv_at hl 5 rfl) ?_
          refine lv_iload hx hb dX4_tell_108 (lv_at hl 1 rfl) ?_
          refine lv_iload hx hb dX4_tell_110 (lv_at hl 5 rfl) ?_
          refine lv_if_ne (tgt := 126) hx hb dX4_tell_112 (by decide) (fun c112 => ?_) (fun c112 => absurd c112 (by decide))
          refine lv_iconst (v := 0) hx hb dX4_tell_126 (by decide) ?_
          refine lv_iconst (v := 0) hx hb dX4_tell_127 (by decide) ?_
          refine wn_wV (rest := []) hx hb hml hown hG hN hP hS (cX4_throwing_w hAd hn hV hR true true false false) (cwV 4 hG (gV g_557 g_559 gp_X4_throwing g_5 g_560) rfl rfl rfl (by decide +kernel) ⟨Nat.le_of_ble_eq_true rfl, Nat.le_of_ble_eq_true rfl⟩) (by omega) hM0 rfl rfl hl.1 rfl (Nat.le_of_ble_eq_true rfl) dX4_tell_128 ⟨Nat.le_of_ble_eq_true rfl, Nat.le_of_ble_eq_true rfl⟩ (fun F4 H locs hFF hP hS => ?_)
          obtain ⟨hR, fF⟩ := hFF
          have h45 : ∀ j, j < 30 ∨ 45 ≤ j → F4 j = E j := fun j hj => (fF j (by omega)).trans (h45 j hj)
          obtain ⟨hM0, hM1, hM2, hM3, hM4, hM5, hM6, hM7, hM8, hM9, hM10, hM11, hM12, hM13, hM14⟩ := id hR
          refine lv_if_eq (tgt := 136) hx hb dX4_tell_131 (by decide) (fun c131 => absurd c131 (by decide)) (fun c131 => ?_)
          refine lv_iconst (v := 0) hx hb dX4_tell_134 (by decide) ?_
          have hk : k_tell S dd tt x v = 1 := by unfold k_tell; first | (rw [n4]; rfl) | (rw [n11, Bool.and_false]; rfl)
          exact W.iret (v := 0) hx hb hr (fun u9 ht _ => ⟨(by rw [hk]; rfl), F4, ⟨by rw [hk]; exact hR, h45⟩, by rw [ht]; exact hP, hS.F ht⟩) hS.2.2 dX4_tell_135
  · have n4 : (inN dd 3) = true := bI_1.mp c4
    refine lv_iload_n hx hb dX4_tell_7 rfl (lv_at hl 2 rfl) ?_
    refine wn_rS (rest := []) hx hb hml hown hG (cX4_isTeller_r _) (cwS 1 hG (gS g_550 g_551 g_5 g_552) rfl rfl rfl (by decide +kernel) ⟨Nat.le_of_ble_eq_true rfl, Nat.le_of_ble_eq_true rfl⟩) rfl hl.1 rfl (Nat.le_of_ble_eq_true rfl) dX4_tell_8 ⟨Nat.le_of_ble_eq_true rfl, Nat.le_of_ble_eq_true rfl⟩ ?_
    refine lv_if_ne (tgt := 18) hx hb dX4_tell_11 (by decide) (fun c11 => ?_) (fun c11 => ?_)
    · have n11 : (inN tt 5) = true := bI_1.mp c11
      refine lv_iconst (v := 0) hx hb dX4_tell_18 (by decide) ?_
      obtain ⟨d, hd, rfl⟩ := inN_of n4 (by decide)
      obtain ⟨t, ht, rfl⟩ := inN_of n11 (by decide)
      have blf := hlf t ht
      refine lv_istore (lv' := [(6, .int 0), (0, .ref (adr 30)), (1, .int (nI d)), (2, .int (nI t)), (3, .long x), (5, .int v)]) hx hb dX4_tell_19 hl (by decide) rfl (fun ls hl => ?_)
      refine lv_lload_n hx hb dX4_tell_21 rfl (lv_at hl 4 rfl) ?_
      refine lv_ldc2 hx hb hown (hG _ g_576) dX4_tell_22 ?_
      refine lv_land hx hb dX4_tell_25 ?_
      refine lv_l2i (v := (x &&& 1048575).toInt32) hx hb dX4_tell_26 rfl ?_
      refine lv_topi (fun y9 e9 => ?_)
      have e9 : y9 = nI (b % 2 ^ 20) := e9.trans ((td_lo x 1048575 20 (by decide) (by decide)).trans (congrArg nI (by rw [hbx]; omega)))
      subst e9
      refine lv_istore (lv' := [(7, .int (nI (b % 2 ^ 20))), (6, .int 0), (0, .ref (adr 30)), (1, .int (nI d)), (2, .int (nI t)), (3, .long x), (5, .int v)]) hx hb dX4_tell_27 hl (by decide) rfl (fun ls hl => ?_)
      refine lv_lload_n hx hb dX4_tell_29 rfl (lv_at hl 5 rfl) ?_
      refine lv_bipush (v := 20) hx hb dX4_tell_30 (by decide) ?_
      refine lv_lshr (v := x >>> ((20 : Int32).toInt64 &&& 63)) hx hb dX4_tell_32 rfl ?_
      refine lv_ldc2 hx hb hown (hG _ g_577) dX4_tell_33 ?_
      refine lv_land hx hb dX4_tell_36 ?_
      refine lv_l2i (v := ((x >>> ((20 : Int32).toInt64 &&& 63)) &&& 7).toInt32) hx hb dX4_tell_37 rfl ?_
      refine lv_topi (fun y9 e9 => ?_)
      have e9 : y9 = nI (b / 2 ^ 20 % 8) := e9.trans ((td_bits x 20 7 20 3 (by decide) (by decide) (by decide) (by decide)).trans (congrArg nI (by rw [hbx]; omega)))
      subst e9
      refine lv_istore (lv' := [(8, .int (nI (b / 2 ^ 20 % 8))), (7, .int (nI (b % 2 ^ 20))), (6, .int 0), (0, .ref (adr 30)), (1, .int (nI d)), (2, .int (nI t)), (3, .long x), (5, .int v)]) hx hb dX4_tell_38 hl (by decide) rfl (fun ls hl => ?_)
      refine lv_lload_n hx hb dX4_tell_40 rfl (lv_at hl 6 rfl) ?_
      refine lv_bipush (v := 23) hx hb dX4_tell_41 (by decide) ?_
      refine lv_lshr (v := x >>> ((23 : Int32).toInt64 &&& 63)) hx hb dX4_tell_43 rfl ?_
      refine lv_ldc2 hx hb hown (hG _ g_578) dX4_tell_44 ?_
      refine lv_land hx hb dX4_tell_47 ?_
      refine lv_l2i (v := ((x >>> ((23 : Int32).toInt64 &&& 63)) &&& 127).toInt32) hx hb dX4_tell_48 rfl ?_
      refine lv_topi (fun y9 e9 => ?_)
      have e9 : y9 = nI (b / 2 ^ 23 % 128) := e9.trans ((td_bits x 23 127 23 7 (by decide) (by decide) (by decide) (by decide)).trans (congrArg nI (by rw [hbx]; omega)))
      subst e9
      refine lv_istore (lv' := [(9, .int (nI (b / 2 ^ 23 % 128))), (8, .int (nI (b / 2 ^ 20 % 8))), (7, .int (nI (b % 2 ^ 20))), (6, .int 0), (0, .ref (adr 30)), (1, .int (nI d)), (2, .int (nI t)), (3, .long x), (5, .int v)]) hx hb dX4_tell_49 hl (by decide) rfl (fun ls hl => ?_)
      refine lv_iload hx hb dX4_tell_51 (lv_at hl 2 rfl) ?_
      refine lv_ldc hx hb hown (hG _ g_556) dX4_tell_53 ?_
      refine lv_icmp_gt (tgt := 74) hx hb dX4_tell_55 (by decide) (fun c55 => ?_) (fun c55 => ?_)
      · have n55 : 1000000 < (b % 2 ^ 20) := (nI_ltI (a := 1000000) (b := (b % 2 ^ 20)) (by omega) (by omega)).mp c55
        have hok : tOK x = false := by unfold tOK; rw [decide_eq_false (show ¬ tN x % 2 ^ 20 < 1000001 by rw [hbx] at n55; omega)]; simp
        refine lv_iconst (v := 1) hx hb dX4_tell_74 (by decide) ?_
        refine lv_goto (tgt := 79) hx hb dX4_tell_75 (by decide) ?_
        refine lv_istore (lv' := [(10, .int 1), (9, .int (nI (b / 2 ^ 23 % 128))), (8, .int (nI (b / 2 ^ 20 % 8))), (7, .int (nI (b % 2 ^ 20))), (6, .int 0), (0, .ref (adr 30)), (1, .int (nI d)), (2, .int (nI t)), (3, .long x), (5, .int v)]) hx hb dX4_tell_79 hl (by decide) rfl (fun ls hl => ?_)
        refine lv_iload hx hb dX4_tell_81 (lv_at hl 4 rfl) ?_
        refine lv_if_eq (tgt := 90) hx hb dX4_tell_83 (by decide) (fun c83 => ?_) (fun c83 => absurd (by decide) c83)
        refine lv_aload_n hx hb dX4_tell_90 rfl (lv_at hl 5 rfl) ?_
        refine lv_iload_n hx hb dX4_tell_91 rfl (lv_at hl 7 rfl) ?_
        refine lv_iload hx hb dX4_tell_92 (lv_at hl 3 rfl) ?_
        refine lv_iload hx hb dX4_tell_94 (lv_at hl 2 rfl) ?_
        refine lv_iload hx hb dX4_tell_96 (lv_at hl 1 rfl) ?_
        refine lv_iload hx hb dX4_tell_98 (lv_at hl 9 rfl) ?_
        refine wn_rV (rest := []) hx hb hml hown hG hN hP (cX4_find_r hn hV hR (t := t) (b := b) ht hb3 v) (cwV 5 hG (gV g_579 g_581 gp_X4_find g_5 g_582) rfl rfl rfl (by decide +kernel) ⟨Nat.le_of_ble_eq_true rfl, Nat.le_of_ble_eq_true rfl⟩) (by omega) hM0 rfl rfl hl.1 rfl (Nat.le_of_ble_eq_true rfl) dX4_tell_100 ⟨Nat.le_of_ble_eq_true rfl, Nat.le_of_ble_eq_true rfl⟩ ?_
        have bix := ix_le (S := S) (t := t) (b := b) (v := v)
        refine lv_istore (lv' := [(11, .int (nI (t_ix S t b v))), (10, .int 1), (9, .int (nI (b / 2 ^ 23 % 128))), (8, .int (nI (b / 2 ^ 20 % 8))), (7, .int (nI (b % 2 ^ 20))), (6, .int 0), (0, .ref (adr 30)), (1, .int (nI d)), (2, .int (nI t)), (3, .long x), (5, .int v)]) hx hb dX4_tell_103 hl (by decide) rfl (fun ls hl => ?_)
        refine lv_aload_n hx hb dX4_tell_105 rfl (lv_at hl 6 rfl) ?_
        refine lv_iload hx hb dX4_tell_106 (lv_at hl 5 rfl) ?_
        refine lv_iload hx hb dX4_tell_108 (lv_at hl 1 rfl) ?_
        refine lv_iload hx hb dX4_tell_110 (lv_at hl 5 rfl) ?_
        refine lv_if_ne (tgt := 126) hx hb dX4_tell_112 (by decide) (fun c112 => absurd (by decide) c112) (fun c112 => ?_)
        refine lv_iload hx hb dX4_tell_115 (lv_at hl 0 rfl) ?_
        refine lv_bipush (v := 120) hx hb dX4_tell_117 (by decide) ?_
        refine lv_icmp_ne (tgt := 126) hx hb dX4_tell_119 (by decide) (fun c119 => ?_) (fun c119 => ?_)
        · have n119 : ¬ (t_ix S t b v) = 120 := fun h7 => c119 ((nI_eq (a := (t_ix S t b v)) (b := 120) (by omega) (by omega)).mpr h7)
          refine lv_iconst (v := 0) hx hb dX4_tell_126 (by decide) ?_
          refine lv_iconst (v := 0) hx hb dX4_tell_127 (by decide) ?_
          refine wn_wV (rest := []) hx hb hml hown hG hN hP hS (cX4_throwing_w hAd hn hV hR false true false false) (cwV 4 hG (gV g_557 g_559 gp_X4_throwing g_5 g_560) rfl rfl rfl (by decide +kernel) ⟨Nat.le_of_ble_eq_true rfl, Nat.le_of_ble_eq_true rfl⟩) (by omega) hM0 rfl rfl hl.1 rfl (Nat.le_of_ble_eq_true rfl) dX4_tell_128 ⟨Nat.le_of_ble_eq_true rfl, Nat.le_of_ble_eq_true rfl⟩ (fun F5 H locs hFF hP hS => ?_)
          obtain ⟨hR, fF⟩ := hFF
          have h45 : ∀ j, j < 30 ∨ 45 ≤ j → F5 j = E j := fun j hj => (fF j (by omega)).trans (h45 j hj)
          obtain ⟨hM0, hM1, hM2, hM3, hM4, hM5, hM6, hM7, hM8, hM9, hM10, hM11, hM12, hM13, hM14⟩ := id hR
          refine lv_if_eq (tgt := 136) hx hb dX4_tell_131 (by decide) (fun c131 => absurd c131 (by decide)) (fun c131 => ?_)
          refine lv_iconst (v := 0) hx hb dX4_tell_134 (by decide) ?_
          have hk : k_tell S (nI d) (nI t) x v = 2 := by unfold k_tell; rw [n4, n11, hok]; rfl
          exact W.iret (v := 0) hx hb hr (fun u9 ht _ => ⟨(by rw [hk]; rfl), F5, ⟨by rw [hk]; exact hR, h45⟩, by rw [ht]; exact hP, hS.F ht⟩) hS.2.2 dX4_tell_135
        · have n119 : (t_ix S t b v) = 120 := (nI_eq (a := (t_ix S t b v)) (b := 120) (by omega) (by omega)).mp c119
          refine lv_iconst (v := 1) hx hb dX4_tell_122 (by decide) ?_
          refine lv_goto (tgt := 127) hx hb dX4_tell_123 (by decide) ?_
          refine lv_iconst (v := 0) hx hb dX4_tell_127 (by decide) ?_
          refine wn_wV (rest := []) hx hb hml hown hG hN hP hS (cX4_throwing_w hAd hn hV hR false true true false) (cwV 4 hG (gV g_557 g_559 gp_X4_throwing g_5 g_560) rfl rfl rfl (by decide +kernel) ⟨Nat.le_of_ble_eq_true rfl, Nat.le_of_ble_eq_true rfl⟩) (by omega) hM0 rfl rfl hl.1 rfl (Nat.le_of_ble_eq_true rfl) dX4_tell_128 ⟨Nat.le_of_ble_eq_true rfl, Nat.le_of_ble_eq_true rfl⟩ (fun F6 H locs hFF hP hS => ?_)
          obtain ⟨hR, fF⟩ := hFF
          have h45 : ∀ j, j < 30 ∨ 45 ≤ j → F6 j = E j := fun j hj => (fF j (by omega)).trans (h45 j hj)
          obtain ⟨hM0, hM1, hM2, hM3, hM4, hM5, hM6, hM7, hM8, hM9, hM10, hM11, hM12, hM13, hM14⟩ := id hR
          refine lv_if_eq (tgt := 136) hx hb dX4_tell_131 (by decide) (fun c131 => absurd c131 (by decide)) (fun c131 => ?_)
          refine lv_iconst (v := 0) hx hb dX4_tell_134 (by decide) ?_
          have hk : k_tell S (nI d) (nI t) x v = 2 := by unfold k_tell; rw [n4, n11, hok]; rfl
          exact W.iret (v := 0) hx hb hr (fun u9 ht _ => ⟨(by rw [hk]; rfl), F6, ⟨by rw [hk]; exact hR, h45⟩, by rw [ht]; exact hP, hS.F ht⟩) hS.2.2 dX4_tell_135
      · have n55 : ¬ 1000000 < (b % 2 ^ 20) := fun h7 => c55 ((nI_ltI (a := 1000000) (b := (b % 2 ^ 20)) (by omega) (by omega)).mpr h7)
        refine lv_iload hx hb dX4_tell_58 (lv_at hl 0 rfl) ?_
        refine lv_bipush (v := 99) hx hb dX4_tell_60 (by decide) ?_
        refine lv_icmp_gt (tgt := 74) hx hb dX4_tell_62 (by decide) (fun c62 => ?_) (fun c62 => ?_)
        · have n62 : 99 < (b / 2 ^ 23 % 128) := (nI_ltI (a := 99) (b := (b / 2 ^ 23 % 128)) (by omega) (by omega)).mp c62
          have hok : tOK x = false := by unfold tOK; rw [decide_eq_false (show ¬ tN x / 2 ^ 23 % 128 < 100 by rw [hbx] at n62; omega)]; simp
          refine lv_iconst (v := 1) hx hb dX4_tell_74 (by decide) ?_
          refine lv_goto (tgt := 79) hx hb dX4_tell_75 (by decide) ?_
          refine lv_istore (lv' := [(10, .int 1), (9, .int (nI (b / 2 ^ 23 % 128))), (8, .int (nI (b / 2 ^ 20 % 8))), (7, .int (nI (b % 2 ^ 20))), (6, .int 0), (0, .ref (adr 30)), (1, .int (nI d)), (2, .int (nI t)), (3, .long x), (5, .int v)]) hx hb dX4_tell_79 hl (by decide) rfl (fun ls hl => ?_)
          refine lv_iload hx hb dX4_tell_81 (lv_at hl 4 rfl) ?_
          refine lv_if_eq (tgt := 90) hx hb dX4_tell_83 (by decide) (fun c83 => ?_) (fun c83 => absurd (by decide) c83)
          refine lv_aload_n hx hb dX4_tell_90 rfl (lv_at hl 5 rfl) ?_
          refine lv_iload_n hx hb dX4_tell_91 rfl (lv_at hl 7 rfl) ?_
          refine lv_iload hx hb dX4_tell_92 (lv_at hl 3 rfl) ?_
          refine lv_iload hx hb dX4_tell_94 (lv_at hl 2 rfl) ?_
          refine lv_iload hx hb dX4_tell_96 (lv_at hl 1 rfl) ?_
          refine lv_iload hx hb dX4_tell_98 (lv_at hl 9 rfl) ?_
          refine wn_rV (rest := []) hx hb hml hown hG hN hP (cX4_find_r hn hV hR (t := t) (b := b) ht hb3 v) (cwV 5 hG (gV g_579 g_581 gp_X4_find g_5 g_582) rfl rfl rfl (by decide +kernel) ⟨Nat.le_of_ble_eq_true rfl, Nat.le_of_ble_eq_true rfl⟩) (by omega) hM0 rfl rfl hl.1 rfl (Nat.le_of_ble_eq_true rfl) dX4_tell_100 ⟨Nat.le_of_ble_eq_true rfl, Nat.le_of_ble_eq_true rfl⟩ ?_
          have bix := ix_le (S := S) (t := t) (b := b) (v := v)
          refine lv_istore (lv' := [(11, .int (nI (t_ix S t b v))), (10, .int 1), (9, .int (nI (b / 2 ^ 23 % 128))), (8, .int (nI (b / 2 ^ 20 % 8))), (7, .int (nI (b % 2 ^ 20))), (6, .int 0), (0, .ref (adr 30)), (1, .int (nI d)), (2, .int (nI t)), (3, .long x), (5, .int v)]) hx hb dX4_tell_103 hl (by decide) rfl (fun ls hl => ?_)
          refine lv_aload_n hx hb dX4_tell_105 rfl (lv_at hl 6 rfl) ?_
          refine lv_iload hx hb dX4_tell_106 (lv_at hl 5 rfl) ?_
          refine lv_iload hx hb dX4_tell_108 (lv_at hl 1 rfl) ?_
          refine lv_iload hx hb dX4_tell_110 (lv_at hl 5 rfl) ?_
          refine lv_if_ne (tgt := 126) hx hb dX4_tell_112 (by decide) (fun c112 => absurd (by decide) c112) (fun c112 => ?_)
          refine lv_iload hx hb dX4_tell_115 (lv_at hl 0 rfl) ?_
          refine lv_bipush (v := 120) hx hb dX4_tell_117 (by decide) ?_
          refine lv_icmp_ne (tgt := 126) hx hb dX4_tell_119 (by decide) (fun c119 => ?_) (fun c119 => ?_)
          · have n119 : ¬ (t_ix S t b v) = 120 := fun h7 => c119 ((nI_eq (a := (t_ix S t b v)) (b := 120) (by omega) (by omega)).mpr h7)
            refine lv_iconst (v := 0) hx hb dX4_tell_126 (by decide) ?_
            refine lv_iconst (v := 0) hx hb dX4_tell_127 (by decide) ?_
            refine wn_wV (rest := []) hx hb hml hown hG hN hP hS (cX4_throwing_w hAd hn hV hR false true false false) (cwV 4 hG (gV g_557 g_559 gp_X4_throwing g_5 g_560) rfl rfl rfl (by decide +kernel) ⟨Nat.le_of_ble_eq_true rfl, Nat.le_of_ble_eq_true rfl⟩) (by omega) hM0 rfl rfl hl.1 rfl (Nat.le_of_ble_eq_true rfl) dX4_tell_128 ⟨Nat.le_of_ble_eq_true rfl, Nat.le_of_ble_eq_true rfl⟩ (fun F7 H locs hFF hP hS => ?_)
            obtain ⟨hR, fF⟩ := hFF
            have h45 : ∀ j, j < 30 ∨ 45 ≤ j → F7 j = E j := fun j hj => (fF j (by omega)).trans (h45 j hj)
            obtain ⟨hM0, hM1, hM2, hM3, hM4, hM5, hM6, hM7, hM8, hM9, hM10, hM11, hM12, hM13, hM14⟩ := id hR
            refine lv_if_eq (tgt := 136) hx hb dX4_tell_131 (by decide) (fun c131 => absurd c131 (by decide)) (fun c131 => ?_)
            refine lv_iconst (v := 0) hx hb dX4_tell_134 (by decide) ?_
            have hk : k_tell S (nI d) (nI t) x v = 2 := by unfold k_tell; rw [n4, n11, hok]; rfl
            exact W.iret (v := 0) hx hb hr (fun u9 ht _ => ⟨(by rw [hk]; rfl), F7, ⟨by rw [hk]; exact hR, h45⟩, by rw [ht]; exact hP, hS.F ht⟩) hS.2.2 dX4_tell_135
          · have n119 : (t_ix S t b v) = 120 := (nI_eq (a := (t_ix S t b v)) (b := 120) (by omega) (by omega)).mp c119
            refine lv_iconst (v := 1) hx hb dX4_tell_122 (by decide) ?_
            refine lv_goto (tgt := 127) hx hb dX4_tell_123 (by decide) ?_
            refine lv_iconst (v := 0) hx hb dX4_tell_127 (by decide) ?_
            refine wn_wV (rest := []) hx hb hml hown hG hN hP hS (cX4_throwing_w hAd hn hV hR false true true false) (cwV 4 hG (gV g_557 g_559 gp_X4_throwing g_5 g_560) rfl rfl rfl (by decide +kernel) ⟨Nat.le_of_ble_eq_true rfl, Nat.le_of_ble_eq_true rfl⟩) (by omega) hM0 rfl rfl hl.1 rfl (Nat.le_of_ble_eq_true rfl) dX4_tell_128 ⟨Nat.le_of_ble_eq_true rfl, Nat.le_of_ble_eq_true rfl⟩ (fun F8 H locs hFF hP hS => ?_)
            obtain ⟨hR, fF⟩ := hFF
            have h45 : ∀ j, j < 30 ∨ 45 ≤ j → F8 j = E j := fun j hj => (fF j (by omega)).trans (h45 j hj)
            obtain ⟨hM0, hM1, hM2, hM3, hM4, hM5, hM6, hM7, hM8, hM9, hM10, hM11, hM12, hM13, hM14⟩ := id hR
            refine lv_if_eq (tgt := 136) hx hb dX4_tell_131 (by decide) (fun c131 => absurd c131 (by decide)) (fun c131 => ?_)
            refine lv_iconst (v := 0) hx hb dX4_tell_134 (by decide) ?_
            have hk : k_tell S (nI d) (nI t) x v = 2 := by unfold k_tell; rw [n4, n11, hok]; rfl
            exact W.iret (v := 0) hx hb hr (fun u9 ht _ => ⟨(by rw [hk]; rfl), F8, ⟨by rw [hk]; exact hR, h45⟩, by rw [ht]; exact hP, hS.F ht⟩) hS.2.2 dX4_tell_135
        · have n62 : ¬ 99 < (b / 2 ^ 23 % 128) := fun h7 => c62 ((nI_ltI (a := 99) (b := (b / 2 ^ 23 % 128)) (by omega) (by omega)).mpr h7)
          refine lv_lload_n hx hb dX4_tell_65 rfl (lv_at hl 7 rfl) ?_
          refine lv_bipush (v := 30) hx hb dX4_tell_66 (by decide) ?_
          refine lv_lshr (v := x >>> ((30 : Int32).toInt64 &&& 63)) hx hb dX4_tell_68 rfl ?_
          refine lv_lconst (v := 0) hx hb dX4_tell_69 (by decide) ?_
          refine W.lcmp hx hb dX4_tell_70 ?_
          refine lv_if_eq (tgt := 78) hx hb dX4_tell_71 (by decide) (fun c71 => ?_) (fun c71 => ?_)
          · have h30 : tN x < 2 ^ 30 := (td_hi x 30 (by decide)).mp ((lg_cmp_eq _ _).mp c71)
            have hbt : b = tN x := by rw [hbx]; omega
            have hok : tOK x = true := by unfold tOK; rw [decide_eq_true h30, decide_eq_true (show tN x % 2 ^ 20 < 1000001 by rw [hbt] at n55; omega), decide_eq_true (show tN x / 2 ^ 23 % 128 < 100 by rw [hbt] at n62; omega)]; rfl
            refine lv_iconst (v := 0) hx hb dX4_tell_78 (by decide) ?_
            refine lv_istore (lv' := [(10, .int 0), (9, .int (nI (b / 2 ^ 23 % 128))), (8, .int (nI (b / 2 ^ 20 % 8))), (7, .int (nI (b % 2 ^ 20))), (6, .int 0), (0, .ref (adr 30)), (1, .int (nI d)), (2, .int (nI t)), (3, .long x), (5, .int v)]) hx hb dX4_tell_79 hl (by decide) rfl (fun ls hl => ?_)
            refine lv_iload hx hb dX4_tell_81 (lv_at hl 4 rfl) ?_
            refine lv_if_eq (tgt := 90) hx hb dX4_tell_83 (by decide) (fun c83 => ?_) (fun c83 => absurd (by decide) c83)
            refine lv_aload_n hx hb dX4_tell_90 rfl (lv_at hl 5 rfl) ?_
            refine lv_iload_n hx hb dX4_tell_91 rfl (lv_at hl 7 rfl) ?_
            refine lv_iload hx hb dX4_tell_92 (lv_at hl 3 rfl) ?_
            refine lv_iload hx hb dX4_tell_94 (lv_at hl 2 rfl) ?_
            refine lv_iload hx hb dX4_tell_96 (lv_at hl 1 rfl) ?_
            refine lv_iload hx hb dX4_tell_98 (lv_at hl 9 rfl) ?_
            refine wn_rV (rest := []) hx hb hml hown hG hN hP (cX4_find_r hn hV hR (t := t) (b := b) ht hb3 v) (cwV 5 hG (gV g_579 g_581 gp_X4_find g_5 g_582) rfl rfl rfl (by decide +kernel) ⟨Nat.le_of_ble_eq_true rfl, Nat.le_of_ble_eq_true rfl⟩) (by omega) hM0 rfl rfl hl.1 rfl (Nat.le_of_ble_eq_true rfl) dX4_tell_100 ⟨Nat.le_of_ble_eq_true rfl, Nat.le_of_ble_eq_true rfl⟩ ?_
            have bix := ix_le (S := S) (t := t) (b := b) (v := v)
            refine lv_istore (lv' := [(11, .int (nI (t_ix S t b v))), (10, .int 0), (9, .int (nI (b / 2 ^ 23 % 128))), (8, .int (nI (b / 2 ^ 20 % 8))), (7, .int (nI (b % 2 ^ 20))), (6, .int 0), (0, .ref (adr 30)), (1, .int (nI d)), (2, .int (nI t)), (3, .long x), (5, .int v)]) hx hb dX4_tell_103 hl (by decide) rfl (fun ls hl => ?_)
            refine lv_aload_n hx hb dX4_tell_105 rfl (lv_at hl 6 rfl) ?_
            refine lv_iload hx hb dX4_tell_106 (lv_at hl 5 rfl) ?_
            refine lv_iload hx hb dX4_tell_108 (lv_at hl 1 rfl) ?_
            refine lv_iload hx hb dX4_tell_110 (lv_at hl 5 rfl) ?_
            refine lv_if_ne (tgt := 126) hx hb dX4_tell_112 (by decide) (fun c112 => absurd (by decide) c112) (fun c112 => ?_)
            refine lv_iload hx hb dX4_tell_115 (lv_at hl 0 rfl) ?_
            refine lv_bipush (v := 120) hx hb dX4_tell_117 (by decide) ?_
            refine lv_icmp_ne (tgt := 126) hx hb dX4_tell_119 (by decide) (fun c119 => ?_) (fun c119 => ?_)
            · have n119 : ¬ (t_ix S t b v) = 120 := fun h7 => c119 ((nI_eq (a := (t_ix S t b v)) (b := 120) (by omega) (by omega)).mpr h7)
              refine lv_iconst (v := 0) hx hb dX4_tell_126 (by decide) ?_
              refine lv_iconst (v := 0) hx hb dX4_tell_127 (by decide) ?_
              refine wn_wV (rest := []) hx hb hml hown hG hN hP hS (cX4_throwing_w hAd hn hV hR false false false false) (cwV 4 hG (gV g_557 g_559 gp_X4_throwing g_5 g_560) rfl rfl rfl (by decide +kernel) ⟨Nat.le_of_ble_eq_true rfl, Nat.le_of_ble_eq_true rfl⟩) (by omega) hM0 rfl rfl hl.1 rfl (Nat.le_of_ble_eq_true rfl) dX4_tell_128 ⟨Nat.le_of_ble_eq_true rfl, Nat.le_of_ble_eq_true rfl⟩ (fun F9 H locs hFF hP hS => ?_)
              obtain ⟨hR, fF⟩ := hFF
              have h45 : ∀ j, j < 30 ∨ 45 ≤ j → F9 j = E j := fun j hj => (fF j (by omega)).trans (h45 j hj)
              obtain ⟨hM0, hM1, hM2, hM3, hM4, hM5, hM6, hM7, hM8, hM9, hM10, hM11, hM12, hM13, hM14⟩ := id hR
              have hR : RepM cA adr S 0 F9 := hR
              refine lv_if_eq (tgt := 136) hx hb dX4_tell_131 (by decide) (fun c131 => ?_) (fun c131 => absurd (by decide) c131)
              refine lv_iload hx hb dX4_tell_136 (lv_at hl 0 rfl) ?_
              refine lv_aload_n hx hb dX4_tell_138 rfl (lv_at hl 6 rfl) ?_
              refine va_get (D := D) (ci := 4) (v := .int (nI (c_ct S))) (C := RX4) (T := TX4) (N := 16) hx hb hG inG_X4 hown hK hP 30 (wl_at (by omega) hM0) rfl 5 (by decide) (hG _ g_498) (fun _ h9 => h9) rfl dX4_tell_139 ?_
              refine lv_icmp_ne (tgt := 220) hx hb dX4_tell_142 (by decide) (fun c142 => ?_) (fun c142 => ?_)
              · have n142 : ¬ (t_ix S t b v) = (c_ct S) := fun h7 => c142 ((nI_eq (a := (t_ix S t b v)) (b := (c_ct S)) (by omega) (by omega)).mpr h7)
                have hfd : ¬ t_fd S t b v = none := fun h9 => n142 (ix_new.mpr h9)
                have hR : RepM cA adr (t_ad S t b v) 0 F9 := by unfold t_ad; rw [if_neg hfd]; exact hR
                obtain ⟨A, hA⟩ : ∃ z9, z9 = t_ad S t b v := ⟨_, rfl⟩
                rw [← hA] at hR
                have hVA : Inv A := by rw [hA]; exact inv_ad hV ht hb3 (by omega) (fun h9 => by have := ix_new.mpr h9; omega)
                have hia : t_ix S t b v < c_ct A := by rw [hA]; exact ix_lt
                have hcA := hVA.1
                obtain ⟨hM0, hM1, hM2, hM3, hM4, hM5, hM6, hM7, hM8, hM9, hM10, hM11, hM12, hM13, hM14⟩ := id hR
                refine lv_aload_n hx hb dX4_tell_220 rfl (lv_at hl 6 rfl) ?_
                refine lv_iload_n hx hb dX4_tell_221 rfl (lv_at hl 7 rfl) ?_
                refine lv_iload hx hb dX4_tell_222 (lv_at hl 0 rfl) ?_
                refine wn_rV (rest := []) hx hb hml hown hG hN hP (cX4_has_r hn (S := A) hVA hR (d := d) (j := t_ix S t b v) hd (by omega)) (cwV 2 hG (gV g_583 g_585 gp_X4_has g_5 g_586) rfl rfl rfl (by decide +kernel) ⟨Nat.le_of_ble_eq_true rfl, Nat.le_of_ble_eq_true rfl⟩) (by omega) hM0 rfl rfl hl.1 rfl (Nat.le_of_ble_eq_true rfl) dX4_tell_224 ⟨Nat.le_of_ble_eq_true rfl, Nat.le_of_ble_eq_true rfl⟩ ?_
                refine lv_if_eq (tgt := 232) hx hb dX4_tell_227 (by decide) (fun c227 => ?_) (fun c227 => ?_)
                · have n227 : (c_has A d (t_ix S t b v)) = false := bI_0.mp c227
                  refine lv_iconst (v := 0) hx hb dX4_tell_232 (by decide) ?_
                  refine lv_istore (lv' := [(12, .int 0), (11, .int (nI (t_ix S t b v))), (10, .int 0), (9, .int (nI (b / 2 ^ 23 % 128))), (8, .int (nI (b / 2 ^ 20 % 8))), (7, .int (nI (b % 2 ^ 20))), (6, .int 0), (0, .ref (adr 30)), (1, .int (nI d)), (2, .int (nI t)), (3, .long x), (5, .int v)]) hx hb dX4_tell_233 hl (by decide) rfl (fun ls hl => ?_)
                  refine lv_iconst (v := 0) hx hb dX4_tell_235 (by decide) ?_
                  refine lv_istore (lv' := [(13, .int 0), (12, .int 0), (11, .int (nI (t_ix S t b v))), (10, .int 0), (9, .int (nI (b / 2 ^ 23 % 128))), (8, .int (nI (b / 2 ^ 20 % 8))), (7, .int (nI (b % 2 ^ 20))), (6, .int 0), (0, .ref (adr 30)), (1, .int (nI d)), (2, .int (nI t)), (3, .long x), (5, .int v)]) hx hb dX4_tell_236 hl (by decide) rfl (fun ls hl => ?_)
                  have L238 : ∀ (f : Nat) (j : Nat) (x9 : Bool), c_ct A - j < f → j ≤ c_ct A → anB (fun r => c_rv A (t_ix S t b v) r && c_has A d r) j = x9 → ∀ ls : Array Slot, lv_has ls 14 [(13, .int (nI j)), (12, .int (bI x9)), (0, .ref (adr 30)), (1, .int (nI d)), (11, .int (nI (t_ix S t b v)))] → W p l e (headSpec (.code yX4_tell cX4_tell 14 (some .int) :: lw_G) ({ frames := 2, cells := 0, slots := 0, locals := 43 } : Room)).room s m [.ref (adr 30), .int (nI d), .int (nI t), .long x, .int v].toArray below meth c H locs 0 0 (MQ below (wq D lo adr n (some (.int (if k_tell S (nI d) (nI t) x v = 0 then r_tell S (nI d).toNatClampNeg (nI t).toNatClampNeg (tN x) v else 0))) (fun E2 => RepM cA adr (if k_tell S (nI d) (nI t) x v = 0 then s_tell S (nI d).toNatClampNeg (nI t).toNatClampNeg (tN x) v else S) (nI (k_tell S (nI d) (nI t) x v)) E2 ∧ ∀ j, j < 30 ∨ 45 ≤ j → E2 j = E j)) [.ref (adr 30), .int (nI d), .int (nI t), .long x, .int v].toArray s 0 0 (fun q => lo ≤ q)) (F0 m 238 ls []) := by
                    intro f
                    induction f with
                    | zero => intro j x9 h0; exact absurd h0 (by omega)
                    | succ f ih238 =>
                      intro j x9 hf hj9 hq9 ls hl
                      refine lv_iload hx hb dX4_tell_238 (lv_at hl 0 rfl) ?_
                      refine lv_aload_n hx hb dX4_tell_240 rfl (lv_at hl 2 rfl) ?_
                      refine va_get (D := D) (ci := 4) (v := .int (nI (c_ct A))) (C := RX4) (T := TX4) (N := 16) hx hb hG inG_X4 hown hK hP 30 (wl_at (by omega) hM0) rfl 5 (by decide) (hG _ g_498) (fun _ h9 => h9) rfl dX4_tell_241 ?_
                      refine lv_icmp_ge (tgt := 286) hx hb dX4_tell_244 (by decide) (fun c244 => ?_) (fun c244 => ?_)
                      · have n244 : (c_ct A) ≤ j := (nI_leI (a := (c_ct A)) (b := j) (by omega) (by omega)).mp c244
                        refine lv_aload_n hx hb dX4_tell_286 rfl (lv_at hl 2 rfl) ?_
                        refine lv_iload_n hx hb dX4_tell_287 rfl (lv_at hl 3 rfl) ?_
                        refine lv_iload hx hb dX4_tell_288 (lv_at hl 4 rfl) ?_
                        refine wn_wV (rest := []) hx hb hml hown hG hN hP hS (cX4_comes_w hAd hn (S := A) hVA hR (d := d) (j := t_ix S t b v) hd (by omega)) (cwV 2 hG (gV g_591 g_593 gp_X4_comes g_5 g_594) rfl rfl rfl (by decide +kernel) ⟨Nat.le_of_ble_eq_true rfl, Nat.le_of_ble_eq_true rfl⟩) (by omega) hM0 rfl rfl hl.1 rfl (Nat.le_of_ble_eq_true rfl) dX4_tell_290 ⟨Nat.le_of_ble_eq_true rfl, Nat.le_of_ble_eq_true rfl⟩ (fun F10 H locs hFF hP hS => ?_)
                        obtain ⟨hR, fF⟩ := hFF
                        have h45 : ∀ j, j < 30 ∨ 45 ≤ j → F10 j = E j := fun j hj => (fF j (by omega) (by omega)).trans (h45 j hj)
                        refine lv_iload hx hb dX4_tell_293 (lv_at hl 1 rfl) ?_
                        refine lv_if_eq (tgt := 302) hx hb dX4_tell_295 (by decide) (fun c295 => ?_) (fun c295 => ?_)
                        · have n295 : x9 = false := bI_0.mp c295
                          refine lv_iconst (v := 0) hx hb dX4_tell_302 (by decide) ?_
                          have hk : k_tell S (nI d) (nI t) x v = 0 := by unfold k_tell; rw [n4, n11, hok, nI_clamp (by omega), ← hbt]; simp only [Bool.and_self, if_true]; exact if_neg (fun h9 => n119 ((ix_full hct).mpr h9))
                          exact W.iret (v := 0) hx hb hr (fun u9 ht _ => ⟨(by rw [hk, if_pos rfl]; exact congrArg (fun z => Outcome.returned (some (Value.int z))) (by rw [nI_clamp (by omega), nI_clamp (by omega), ← hbt]; unfold r_tell; rw [hasT_eq hV hd, ← hA, n227, show c_ct A = j from by omega, hq9, n295]; rfl)), F10, ⟨by rw [hk]; exact (by rw [nI_clamp (by omega), nI_clamp (by omega), ← hbt]; unfold s_tell; rw [hasT_eq hV hd, ← hA, n227]; exact hR), h45⟩, by rw [ht]; exact hP, hS.F ht⟩) hS.2.2 dX4_tell_303
                        · have n295 : x9 = true := bI_1.mp c295
                          refine lv_iconst (v := 2) hx hb dX4_tell_298 (by decide) ?_
                          refine lv_goto (tgt := 303) hx hb dX4_tell_299 (by decide) ?_
                          have hk : k_tell S (nI d) (nI t) x v = 0 := by unfold k_tell; rw [n4, n11, hok, nI_clamp (by omega), ← hbt]; simp only [Bool.and_self, if_true]; exact if_neg (fun h9 => n119 ((ix_full hct).mpr h9))
                          exact W.iret (v := 2) hx hb hr (fun u9 ht _ => ⟨(by rw [hk, if_pos rfl]; exact congrArg (fun z => Outcome.returned (some (Value.int z))) (by rw [nI_clamp (by omega), nI_clamp (by omega), ← hbt]; unfold r_tell; rw [hasT_eq hV hd, ← hA, n227, show c_ct A = j from by omega, hq9, n295]; rfl)), F10, ⟨by rw [hk]; exact (by rw [nI_clamp (by omega), nI_clamp (by omega), ← hbt]; unfold s_tell; rw [hasT_eq hV hd, ← hA, n227]; exact hR), h45⟩, by rw [ht]; exact hP, hS.F ht⟩) hS.2.2 dX4_tell_303
                      · have n244 : ¬ (c_ct A) ≤ j := fun h7 => c244 ((nI_leI (a := (c_ct A)) (b := j) (by omega) (by omega)).mpr h7)
                        refine lv_iload hx hb dX4_tell_247 (lv_at hl 1 rfl) ?_
                        refine lv_if_ne (tgt := 273) hx hb dX4_tell_249 (by decide) (fun c249 => ?_) (fun c249 => ?_)
                        · have n249 : x9 = true := bI_1.mp c249
                          refine lv_iconst (v := 1) hx hb dX4_tell_273 (by decide) ?_
                          refine lv_goto (tgt := 278) hx hb dX4_tell_274 (by decide) ?_
                          refine lv_istore (lv' := [(12, .int 1), (13, .int (nI j)), (0, .ref (adr 30)), (1, .int (nI d)), (11, .int (nI (t_ix S t b v)))]) hx hb dX4_tell_278 hl (by decide) rfl (fun ls hl => ?_)
                          refine lv_iinc (v := nI (j + 1)) (lv' := [(13, .int (nI (j + 1))), (12, .int 1), (0, .ref (adr 30)), (1, .int (nI d)), (11, .int (nI (t_ix S t b v)))]) hx hb dX4_tell_280 hl (k := 1) rfl (nI_1 _) (by decide) rfl (fun ls hl => ?_)
                          refine lv_goto (tgt := 238) hx hb dX4_tell_283 (by decide) ?_
                          exact ih238 (j + 1) true (by omega) (by omega) (by show (anB (fun r => c_rv A (t_ix S t b v) r && c_has A d r) j || (c_rv A (t_ix S t b v) j && c_has A d j)) = _; rw [hq9]; first | (rw [n249]; rfl) | (rw [n249, n260]; rfl) | (rw [n249, n260, n270]; rfl)) ls (lv_sub hl [0, 1, 2, 3, 4] rfl)
                        · have n249 : x9 = false := bI_0.mp c249
                          refine lv_aload_n hx hb dX4_tell_252 rfl (lv_at hl 2 rfl) ?_
                          refine lv_iload hx hb dX4_tell_253 (lv_at hl 4 rfl) ?_
                          refine lv_iload hx hb dX4_tell_255 (lv_at hl 0 rfl) ?_
                          refine wn_rV (rest := []) hx hb hml hown hG hN hP (cX4_areRivals_r hn (S := A) hVA hR (i := t_ix S t b v) (j := j) (by omega) (by omega)) (cwV 2 hG (gV g_587 g_589 gp_X4_areRivals g_5 g_590) rfl rfl rfl (by decide +kernel) ⟨Nat.le_of_ble_eq_true rfl, Nat.le_of_ble_eq_true rfl⟩) (by omega) hM0 rfl rfl hl.1 rfl (Nat.le_of_ble_eq_true rfl) dX4_tell_257 ⟨Nat.le_of_ble_eq_true rfl, Nat.le_of_ble_eq_true rfl⟩ ?_
                          refine lv_if_eq (tgt := 277) hx hb dX4_tell_260 (by decide) (fun c260 => ?_) (fun c260 => ?_)
                          · have n260 : (c_rv A (t_ix S t b v) j) = false := bI_0.mp c260
                            refine lv_iconst (v := 0) hx hb dX4_tell_277 (by decide) ?_
                            refine lv_istore (lv' := [(12, .int 0), (13, .int (nI j)), (0, .ref (adr 30)), (1, .int (nI d)), (11, .int (nI (t_ix S t b v)))]) hx hb dX4_tell_278 hl (by decide) rfl (fun ls hl => ?_)
                            refine lv_iinc (v := nI (j + 1)) (lv' := [(13, .int (nI (j + 1))), (12, .int 0), (0, .ref (adr 30)), (1, .int (nI d)), (11, .int (nI (t_ix S t b v)))]) hx hb dX4_tell_280 hl (k := 1) rfl (nI_1 _) (by decide) rfl (fun ls hl => ?_)
                            refine lv_goto (tgt := 238) hx hb dX4_tell_283 (by decide) ?_
                            exact ih238 (j + 1) false (by omega) (by omega) (by show (anB (fun r => c_rv A (t_ix S t b v) r && c_has A d r) j || (c_rv A (t_ix S t b v) j && c_has A d j)) = _; rw [hq9]; first | (rw [n249]; rfl) | (rw [n249, n260]; rfl) | (rw [n249, n260, n270]; rfl)) ls (lv_sub hl [0, 1, 2, 3, 4] rfl)
                          · have n260 : (c_rv A (t_ix S t b v) j) = true := bI_1.mp c260
                            refine lv_aload_n hx hb dX4_tell_263 rfl (lv_at hl 2 rfl) ?_
                            refine lv_iload_n hx hb dX4_tell_264 rfl (lv_at hl 3 rfl) ?_
                            refine lv_iload hx hb dX4_tell_265 (lv_at hl 0 rfl) ?_
                            refine wn_rV (rest := []) hx hb hml hown hG hN hP (cX4_has_r hn (S := A) hVA hR (d := d) (j := j) hd (by omega)) (cwV 2 hG (gV g_583 g_585 gp_X4_has g_5 g_586) rfl rfl rfl (by decide +kernel) ⟨Nat.le_of_ble_eq_true rfl, Nat.le_of_ble_eq_true rfl⟩) (by omega) hM0 rfl rfl hl.1 rfl (Nat.le_of_ble_eq_true rfl) dX4_tell_267 ⟨Nat.le_of_ble_eq_true rfl, Nat.le_of_ble_eq_true rfl⟩ ?_
                            refine lv_if_eq (tgt := 277) hx hb dX4_tell_270 (by decide) (fun c270 => ?_) (fun c270 => ?_)
                            · have n270 : (c_has A d j) = false := bI_0.mp c270
                              refine lv_iconst (v := 0) hx hb dX4_tell_277 (by decide) ?_
                              refine lv_istore (lv' := [(12, .int 0), (13, .int (nI j)), (0, .ref (adr 30)), (1, .int (nI d)), (11, .int (nI (t_ix S t b v)))]) hx hb dX4_tell_278 hl (by decide) rfl (fun ls hl => ?_)
                              refine lv_iinc (v := nI (j + 1)) (lv' := [(13, .int (nI (j + 1))), (12, .int 0), (0, .ref (adr 30)), (1, .int (nI d)), (11, .int (nI (t_ix S t b v)))]) hx hb dX4_tell_280 hl (k := 1) rfl (nI_1 _) (by decide) rfl (fun ls hl => ?_)
                              refine lv_goto (tgt := 238) hx hb dX4_tell_283 (by decide) ?_
                              exact ih238 (j + 1) false (by omega) (by omega) (by show (anB (fun r => c_rv A (t_ix S t b v) r && c_has A d r) j || (c_rv A (t_ix S t b v) j && c_has A d j)) = _; rw [hq9]; first | (rw [n249]; rfl) | (rw [n249, n260]; rfl) | (rw [n249, n260, n270]; rfl)) ls (lv_sub hl [0, 1, 2, 3, 4] rfl)
                            · have n270 : (c_has A d j) = true := bI_1.mp c270
                              refine lv_iconst (v := 1) hx hb dX4_tell_273 (by decide) ?_
                              refine lv_goto (tgt := 278) hx hb dX4_tell_274 (by decide) ?_
                              refine lv_istore (lv' := [(12, .int 1), (13, .int (nI j)), (0, .ref (adr 30)), (1, .int (nI d)), (11, .int (nI (t_ix S t b v)))]) hx hb dX4_tell_278 hl (by decide) rfl (fun ls hl => ?_)
                              refine lv_iinc (v := nI (j + 1)) (lv' := [(13, .int (nI (j + 1))), (12, .int 1), (0, .ref (adr 30)), (1, .int (nI d)), (11, .int (nI (t_ix S t b v)))]) hx hb dX4_tell_280 hl (k := 1) rfl (nI_1 _) (by decide) rfl (fun ls hl => ?_)
                              refine lv_goto (tgt := 238) hx hb dX4_tell_283 (by decide) ?_
                              exact ih238 (j + 1) true (by omega) (by omega) (by show (anB (fun r => c_rv A (t_ix S t b v) r && c_has A d r) j || (c_rv A (t_ix S t b v) j && c_has A d j)) = _; rw [hq9]; first | (rw [n249]; rfl) | (rw [n249, n260]; rfl) | (rw [n249, n260, n270]; rfl)) ls (lv_sub hl [0, 1, 2, 3, 4] rfl)
                  exact L238 (c_ct A + 1) 0 false (by omega) (by omega) rfl ls (lv_sub hl [0, 1, 8, 9, 2] rfl)
                · have n227 : (c_has A d (t_ix S t b v)) = true := bI_1.mp c227
                  refine lv_iconst (v := 1) hx hb dX4_tell_230 (by decide) ?_
                  have hk : k_tell S (nI d) (nI t) x v = 0 := by unfold k_tell; rw [n4, n11, hok, nI_clamp (by omega), ← hbt]; simp only [Bool.and_self, if_true]; exact if_neg (fun h9 => n119 ((ix_full hct).mpr h9))
                  exact W.iret (v := 1) hx hb hr (fun u9 ht _ => ⟨(by rw [hk, if_pos rfl]; exact congrArg (fun z => Outcome.returned (some (Value.int z))) (by rw [nI_clamp (by omega), nI_clamp (by omega), ← hbt]; unfold r_tell; rw [hasT_eq hV hd, ← hA, n227]; rfl)), F9, ⟨by rw [hk]; exact (by rw [nI_clamp (by omega), nI_clamp (by omega), ← hbt]; unfold s_tell; rw [hasT_eq hV hd, ← hA, n227]; exact hR), h45⟩, by rw [ht]; exact hP, hS.F ht⟩) hS.2.2 dX4_tell_231
              · have n142 : (t_ix S t b v) = (c_ct S) := (nI_eq (a := (t_ix S t b v)) (b := (c_ct S)) (by omega) (by omega)).mp c142
                have hix := n142
                have hfd : t_fd S t b v = none := ix_new.mp hix
                refine lv_aload_n hx hb dX4_tell_145 rfl (lv_at hl 6 rfl) ?_
                refine va_get (D := D) (ci := 4) (v := .ref (adr 35)) (C := RX4) (T := TX4) (N := 16) hx hb hG inG_X4 hown hK hP 30 (wl_at (by omega) hM0) rfl 6 (by decide) (hG _ g_499) (fun _ h9 => h9) rfl dX4_tell_146 ?_
                refine lv_iload hx hb dX4_tell_149 (lv_at hl 0 rfl) ?_
                refine lv_iload_n hx hb dX4_tell_151 rfl (lv_at hl 8 rfl) ?_
                refine wn_iast (j := (t_ix S t b v)) hx hb hK hAd hP hS (by omega) hM5 (by omega) (by decide) dX4_tell_152 (fun H locs hP hS => ?_)
                rw [hix] at hP
                rw [up_g (g := fun a9 => nI (a9 / 512)) (f := c_nm S) (y := t_nm S t b) (x := nI t) (show nI ((t_nm S t b) / 512) = nI t from congrArg nI (by first | rfl | (unfold t_nm; omega)))] at hP
                obtain ⟨E11x, hE11x⟩ : ∃ z9, z9 = va_up F9 35 (.inl (cA 0, 120, .inl (fun j => nI ((upN (c_nm S) (c_ct S) (t_nm S t b)) j / 512)))) := ⟨_, rfl⟩
                have hP : va_P D kcl (wl adr n E11x) H := by rw [hE11x]; exact hP
                have hF9 : ∀ j, j ≠ 35 → E11x j = F9 j := fun j z9 => by rw [hE11x, va_up_ne _ _ z9]
                have h45 : ∀ j, j < 30 ∨ 45 ≤ j → E11x j = E j := fun j hj => (hF9 j (by omega)).trans (h45 j hj)
                have hM0 := (hF9 30 (by omega)).trans hM0
                have hM1 := (hF9 31 (by omega)).trans hM1
                have hM2 := (hF9 32 (by omega)).trans hM2
                have hM3 := (hF9 33 (by omega)).trans hM3
                have hM4 := (hF9 34 (by omega)).trans hM4
                have hM6 := (hF9 36 (by omega)).trans hM6
                have hM7 := (hF9 37 (by omega)).trans hM7
                have hM8 := (hF9 38 (by omega)).trans hM8
                have hM9 := (hF9 39 (by omega)).trans hM9
                have hM10 := (hF9 40 (by omega)).trans hM10
                have hM11 := (hF9 41 (by omega)).trans hM11
                have hM12 := (hF9 42 (by omega)).trans hM12
                have hM13 := (hF9 43 (by omega)).trans hM13
                have hM14 := (hF9 44 (by omega)).trans hM14
                have hM5 : E11x 35 = .inl (cA 0, 120, .inl (fun j => nI ((upN (c_nm S) (c_ct S) (t_nm S t b)) j / 512))) := by rw [hE11x, va_up_self]
                refine lv_aload_n hx hb dX4_tell_153 rfl (lv_at hl 6 rfl) ?_
                refine va_get (D := D) (ci := 4) (v := .ref (adr 36)) (C := RX4) (T := TX4) (N := 16) hx hb hG inG_X4 hown hK hP 30 (wl_at (by omega) hM0) rfl 7 (by decide) (hG _ g_500) (fun _ h9 => h9) rfl dX4_tell_154 ?_
                refine lv_iload hx hb dX4_tell_157 (lv_at hl 0 rfl) ?_
                refine lv_aload_n hx hb dX4_tell_159 rfl (lv_at hl 6 rfl) ?_
                refine va_get (D := D) (ci := 4) (v := .ref (adr 31)) (C := RX4) (T := TX4) (N := 16) hx hb hG inG_X4 hown hK hP 30 (wl_at (by omega) hM0) rfl 1 (by decide) (hG _ g_494) (fun _ h9 => h9) rfl dX4_tell_160 ?_
                refine lv_iload_n hx hb dX4_tell_163 rfl (lv_at hl 8 rfl) ?_
                refine wn_iald (j := t) hx hb hK hP (by omega) hM1 (by omega) (by decide) dX4_tell_164 ?_
                refine wn_iast (j := (t_ix S t b v)) hx hb hK hAd hP hS (by omega) hM6 (by omega) (by decide) dX4_tell_165 (fun H locs hP hS => ?_)
                rw [hix] at hP
                rw [up_g (g := fun a9 => nI (a9 / 128 % 4)) (f := c_nm S) (y := t_nm S t b) (x := nI (c_lf S t)) (show nI ((t_nm S t b) / 128 % 4) = nI (c_lf S t) from congrArg nI (by first | rfl | (unfold t_nm; omega)))] at hP
                obtain ⟨E12x, hE12x⟩ : ∃ z9, z9 = va_up E11x 36 (.inl (cA 0, 120, .inl (fun j => nI ((upN (c_nm S) (c_ct S) (t_nm S t b)) j / 128 % 4)))) := ⟨_, rfl⟩
                have hP : va_P D kcl (wl adr n E12x) H := by rw [hE12x]; exact hP
                have hF9 : ∀ j, j ≠ 36 → E12x j = E11x j := fun j z9 => by rw [hE12x, va_up_ne _ _ z9]
                have h45 : ∀ j, j < 30 ∨ 45 ≤ j → E12x j = E j := fun j hj => (hF9 j (by omega)).trans (h45 j hj)
                have hM0 := (hF9 30 (by omega)).trans hM0
                have hM1 := (hF9 31 (by omega)).trans hM1
                have hM2 := (hF9 32 (by omega)).trans hM2
                have hM3 := (hF9 33 (by omega)).trans hM3
                have hM4 := (hF9 34 (by omega)).trans hM4
                have hM5 := (hF9 35 (by omega)).trans hM5
                have hM7 := (hF9 37 (by omega)).trans hM7
                have hM8 := (hF9 38 (by omega)).trans hM8
                have hM9 := (hF9 39 (by omega)).trans hM9
                have hM10 := (hF9 40 (by omega)).trans hM10
                have hM11 := (hF9 41 (by omega)).trans hM11
                have hM12 := (hF9 42 (by omega)).trans hM12
                have hM13 := (hF9 43 (by omega)).trans hM13
                have hM14 := (hF9 44 (by omega)).trans hM14
                have hM6 : E12x 36 = .inl (cA 0, 120, .inl (fun j => nI ((upN (c_nm S) (c_ct S) (t_nm S t b)) j / 128 % 4))) := by rw [hE12x, va_up_self]
                refine lv_aload_n hx hb dX4_tell_166 rfl (lv_at hl 6 rfl) ?_
                refine va_get (D := D) (ci := 4) (v := .ref (adr 37)) (C := RX4) (T := TX4) (N := 16) hx hb hG inG_X4 hown hK hP 30 (wl_at (by omega) hM0) rfl 8 (by decide) (hG _ g_501) (fun _ h9 => h9) rfl dX4_tell_167 ?_
                refine lv_iload hx hb dX4_tell_170 (lv_at hl 0 rfl) ?_
                refine lv_iload hx hb dX4_tell_172 (lv_at hl 2 rfl) ?_
                refine wn_iast (j := (t_ix S t b v)) hx hb hK hAd hP hS (by omega) hM7 (by omega) (by decide) dX4_tell_174 (fun H locs hP hS => ?_)
                rw [hix] at hP
                rw [up_g (g := fun a9 => nI (a9 % 128)) (f := c_nm S) (y := t_nm S t b) (x := nI (b / 2 ^ 23 % 128)) (show nI ((t_nm S t b) % 128) = nI (b / 2 ^ 23 % 128) from congrArg nI (by first | rfl | (unfold t_nm; omega)))] at hP
                obtain ⟨E13x, hE13x⟩ : ∃ z9, z9 = va_up E12x 37 (.inl (cA 0, 120, .inl (fun j => nI ((upN (c_nm S) (c_ct S) (t_nm S t b)) j % 128)))) := ⟨_, rfl⟩
                have hP : va_P D kcl (wl adr n E13x) H := by rw [hE13x]; exact hP
                have hF9 : ∀ j, j ≠ 37 → E13x j = E12x j := fun j z9 => by rw [hE13x, va_up_ne _ _ z9]
                have h45 : ∀ j, j < 30 ∨ 45 ≤ j → E13x j = E j := fun j hj => (hF9 j (by omega)).trans (h45 j hj)
                have hM0 := (hF9 30 (by omega)).trans hM0
                have hM1 := (hF9 31 (by omega)).trans hM1
                have hM2 := (hF9 32 (by omega)).trans hM2
                have hM3 := (hF9 33 (by omega)).trans hM3
                have hM4 := (hF9 34 (by omega)).trans hM4
                have hM5 := (hF9 35 (by omega)).trans hM5
                have hM6 := (hF9 36 (by omega)).trans hM6
                have hM8 := (hF9 38 (by omega)).trans hM8
                have hM9 := (hF9 39 (by omega)).trans hM9
                have hM10 := (hF9 40 (by omega)).trans hM10
                have hM11 := (hF9 41 (by omega)).trans hM11
                have hM12 := (hF9 42 (by omega)).trans hM12
                have hM13 := (hF9 43 (by omega)).trans hM13
                have hM14 := (hF9 44 (by omega)).trans hM14
                have hM7 : E13x 37 = .inl (cA 0, 120, .inl (fun j => nI ((upN (c_nm S) (c_ct S) (t_nm S t b)) j % 128))) := by rw [hE13x, va_up_self]
                refine lv_aload_n hx hb dX4_tell_175 rfl (lv_at hl 6 rfl) ?_
                refine va_get (D := D) (ci := 4) (v := .ref (adr 38)) (C := RX4) (T := TX4) (N := 16) hx hb hG inG_X4 hown hK hP 30 (wl_at (by omega) hM0) rfl 9 (by decide) (hG _ g_502) (fun _ h9 => h9) rfl dX4_tell_176 ?_
                refine lv_iload hx hb dX4_tell_179 (lv_at hl 0 rfl) ?_
                refine lv_iload hx hb dX4_tell_181 (lv_at hl 3 rfl) ?_
                refine wn_iast (j := (t_ix S t b v)) hx hb hK hAd hP hS (by omega) hM8 (by omega) (by decide) dX4_tell_183 (fun H locs hP hS => ?_)
                rw [hix] at hP
                rw [up_g (g := fun a9 => nI (a9 / 2 ^ 20 % 8)) (f := c_td S) (y := b) (x := nI (b / 2 ^ 20 % 8)) (show nI (b / 2 ^ 20 % 8) = nI (b / 2 ^ 20 % 8) from congrArg nI (by first | rfl | (unfold t_nm; omega)))] at hP
                obtain ⟨E14x, hE14x⟩ : ∃ z9, z9 = va_up E13x 38 (.inl (cA 0, 120, .inl (fun j => nI ((upN (c_td S) (c_ct S) b) j / 2 ^ 20 % 8)))) := ⟨_, rfl⟩
                have hP : va_P D kcl (wl adr n E14x) H := by rw [hE14x]; exact hP
                have hF9 : ∀ j, j ≠ 38 → E14x j = E13x j := fun j z9 => by rw [hE14x, va_up_ne _ _ z9]
                have h45 : ∀ j, j < 30 ∨ 45 ≤ j → E14x j = E j := fun j hj => (hF9 j (by omega)).trans (h45 j hj)
                have hM0 := (hF9 30 (by omega)).trans hM0
                have hM1 := (hF9 31 (by omega)).trans hM1
                have hM2 := (hF9 32 (by omega)).trans hM2
                have hM3 := (hF9 33 (by omega)).trans hM3
                have hM4 := (hF9 34 (by omega)).trans hM4
                have hM5 := (hF9 35 (by omega)).trans hM5
                have hM6 := (hF9 36 (by omega)).trans hM6
                have hM7 := (hF9 37 (by omega)).trans hM7
                have hM9 := (hF9 39 (by omega)).trans hM9
                have hM10 := (hF9 40 (by omega)).trans hM10
                have hM11 := (hF9 41 (by omega)).trans hM11
                have hM12 := (hF9 42 (by omega)).trans hM12
                have hM13 := (hF9 43 (by omega)).trans hM13
                have hM14 := (hF9 44 (by omega)).trans hM14
                have hM8 : E14x 38 = .inl (cA 0, 120, .inl (fun j => nI ((upN (c_td S) (c_ct S) b) j / 2 ^ 20 % 8))) := by rw [hE14x, va_up_self]
                refine lv_aload_n hx hb dX4_tell_184 rfl (lv_at hl 6 rfl) ?_
                refine va_get (D := D) (ci := 4) (v := .ref (adr 39)) (C := RX4) (T := TX4) (N := 16) hx hb hG inG_X4 hown hK hP 30 (wl_at (by omega) hM0) rfl 10 (by decide) (hG _ g_503) (fun _ h9 => h9) rfl dX4_tell_185 ?_
                refine lv_iload hx hb dX4_tell_188 (lv_at hl 0 rfl) ?_
                refine lv_iload hx hb dX4_tell_190 (lv_at hl 10 rfl) ?_
                refine wn_iast (j := (t_ix S t b v)) hx hb hK hAd hP hS (by omega) hM9 (by omega) (by decide) dX4_tell_192 (fun H locs hP hS => ?_)
                rw [hix] at hP
                obtain ⟨E15x, hE15x⟩ : ∃ z9, z9 = va_up E14x 39 (.inl (cA 0, 120, .inl (upd (c_vl S) (c_ct S) v))) := ⟨_, rfl⟩
                have hP : va_P D kcl (wl adr n E15x) H := by rw [hE15x]; exact hP
                have hF9 : ∀ j, j ≠ 39 → E15x j = E14x j := fun j z9 => by rw [hE15x, va_up_ne _ _ z9]
                have h45 : ∀ j, j < 30 ∨ 45 ≤ j → E15x j = E j := fun j hj => (hF9 j (by omega)).trans (h45 j hj)
                have hM0 := (hF9 30 (by omega)).trans hM0
                have hM1 := (hF9 31 (by omega)).trans hM1
                have hM2 := (hF9 32 (by omega)).trans hM2
                have hM3 := (hF9 33 (by omega)).trans hM3
                have hM4 := (hF9 34 (by omega)).trans hM4
                have hM5 := (hF9 35 (by omega)).trans hM5
                have hM6 := (hF9 36 (by omega)).trans hM6
                have hM7 := (hF9 37 (by omega)).trans hM7
                have hM8 := (hF9 38 (by omega)).trans hM8
                have hM10 := (hF9 40 (by omega)).trans hM10
                have hM11 := (hF9 41 (by omega)).trans hM11
                have hM12 := (hF9 42 (by omega)).trans hM12
                have hM13 := (hF9 43 (by omega)).trans hM13
                have hM14 := (hF9 44 (by omega)).trans hM14
                have hM9 : E15x 39 = .inl (cA 0, 120, .inl (upd (c_vl S) (c_ct S) v)) := by rw [hE15x, va_up_self]
                refine lv_aload_n hx hb dX4_tell_193 rfl (lv_at hl 6 rfl) ?_
                refine va_get (D := D) (ci := 4) (v := .ref (adr 40)) (C := RX4) (T := TX4) (N := 16) hx hb hG inG_X4 hown hK hP 30 (wl_at (by omega) hM0) rfl 11 (by decide) (hG _ g_504) (fun _ h9 => h9) rfl dX4_tell_194 ?_
                refine lv_iload hx hb dX4_tell_197 (lv_at hl 0 rfl) ?_
                refine lv_iload hx hb dX4_tell_199 (lv_at hl 4 rfl) ?_
                refine wn_iast (j := (t_ix S t b v)) hx hb hK hAd hP hS (by omega) hM10 (by omega) (by decide) dX4_tell_201 (fun H locs hP hS => ?_)
                rw [hix] at hP
                rw [up_g (g := fun a9 => nI (a9 % 2 ^ 20)) (f := c_td S) (y := b) (x := nI (b % 2 ^ 20)) (show nI (b % 2 ^ 20) = nI (b % 2 ^ 20) from congrArg nI (by first | rfl | (unfold t_nm; omega)))] at hP
                obtain ⟨E16x, hE16x⟩ : ∃ z9, z9 = va_up E15x 40 (.inl (cA 0, 120, .inl (fun j => nI ((upN (c_td S) (c_ct S) b) j % 2 ^ 20)))) := ⟨_, rfl⟩
                have hP : va_P D kcl (wl adr n E16x) H := by rw [hE16x]; exact hP
                have hF9 : ∀ j, j ≠ 40 → E16x j = E15x j := fun j z9 => by rw [hE16x, va_up_ne _ _ z9]
                have h45 : ∀ j, j < 30 ∨ 45 ≤ j → E16x j = E j := fun j hj => (hF9 j (by omega)).trans (h45 j hj)
                have hM0 := (hF9 30 (by omega)).trans hM0
                have hM1 := (hF9 31 (by omega)).trans hM1
                have hM2 := (hF9 32 (by omega)).trans hM2
                have hM3 := (hF9 33 (by omega)).trans hM3
                have hM4 := (hF9 34 (by omega)).trans hM4
                have hM5 := (hF9 35 (by omega)).trans hM5
                have hM6 := (hF9 36 (by omega)).trans hM6
                have hM7 := (hF9 37 (by omega)).trans hM7
                have hM8 := (hF9 38 (by omega)).trans hM8
                have hM9 := (hF9 39 (by omega)).trans hM9
                have hM11 := (hF9 41 (by omega)).trans hM11
                have hM12 := (hF9 42 (by omega)).trans hM12
                have hM13 := (hF9 43 (by omega)).trans hM13
                have hM14 := (hF9 44 (by omega)).trans hM14
                have hM10 : E16x 40 = .inl (cA 0, 120, .inl (fun j => nI ((upN (c_td S) (c_ct S) b) j % 2 ^ 20))) := by rw [hE16x, va_up_self]
                refine lv_aload_n hx hb dX4_tell_202 rfl (lv_at hl 6 rfl) ?_
                refine va_get (D := D) (ci := 4) (v := .ref (adr 41)) (C := RX4) (T := TX4) (N := 16) hx hb hG inG_X4 hown hK hP 30 (wl_at (by omega) hM0) rfl 12 (by decide) (hG _ g_505) (fun _ h9 => h9) rfl dX4_tell_203 ?_
                refine lv_iload hx hb dX4_tell_206 (lv_at hl 0 rfl) ?_
                refine lv_iconst (v := 0) hx hb dX4_tell_208 (by decide) ?_
                refine wn_zast (b := false) (j := (t_ix S t b v)) hx hb hK hAd hP hS (by omega) hM11 (by omega) (by decide) dX4_tell_209 (fun H locs hP hS => ?_)
                rw [hix] at hP
                rw [upd_bI (c_sd S) (c_ct S) false, upZ_same (h2 _ (Nat.le_refl _))] at hP
                obtain ⟨E17x, hE17x⟩ : ∃ z9, z9 = va_up E16x 41 (.inl (cA 1, 120, .inl (fun j => bI (c_sd S j)))) := ⟨_, rfl⟩
                have hP : va_P D kcl (wl adr n E17x) H := by rw [hE17x]; exact hP
                have hF9 : ∀ j, j ≠ 41 → E17x j = E16x j := fun j z9 => by rw [hE17x, va_up_ne _ _ z9]
                have h45 : ∀ j, j < 30 ∨ 45 ≤ j → E17x j = E j := fun j hj => (hF9 j (by omega)).trans (h45 j hj)
                have hM0 := (hF9 30 (by omega)).trans hM0
                have hM1 := (hF9 31 (by omega)).trans hM1
                have hM2 := (hF9 32 (by omega)).trans hM2
                have hM3 := (hF9 33 (by omega)).trans hM3
                have hM4 := (hF9 34 (by omega)).trans hM4
                have hM5 := (hF9 35 (by omega)).trans hM5
                have hM6 := (hF9 36 (by omega)).trans hM6
                have hM7 := (hF9 37 (by omega)).trans hM7
                have hM8 := (hF9 38 (by omega)).trans hM8
                have hM9 := (hF9 39 (by omega)).trans hM9
                have hM10 := (hF9 40 (by omega)).trans hM10
                have hM12 := (hF9 42 (by omega)).trans hM12
                have hM13 := (hF9 43 (by omega)).trans hM13
                have hM14 := (hF9 44 (by omega)).trans hM14
                have hM11 : E17x 41 = .inl (cA 1, 120, .inl (fun j => bI (c_sd S j))) := by rw [hE17x, va_up_self]
                refine lv_aload_n hx hb dX4_tell_210 rfl (lv_at hl 6 rfl) ?_
                refine lv_dup hx hb dX4_tell_211 rfl ?_
                refine va_get (D := D) (ci := 4) (v := .int (nI (c_ct S))) (C := RX4) (T := TX4) (N := 16) hx hb hG inG_X4 hown hK hP 30 (wl_at (by omega) hM0) rfl 5 (by decide) (hG _ g_498) (fun _ h9 => h9) rfl dX4_tell_212 ?_
                refine lv_iconst (v := 1) hx hb dX4_tell_215 (by decide) ?_
                refine lv_iadd hx hb dX4_tell_216 ?_
                refine lv_topi (fun y9 e9 => ?_)
                have e9 : y9 = nI ((c_ct S) + 1) := e9.trans (nI_add (c_ct S) 1)
                subst e9
                refine wd_put (ci := 4) (C := RX4) (T := TX4) (N := 16) (v := .int (nI ((c_ct S) + 1))) (ty := .int) hx hb hG inG_X4 tyX4 tyX4_ok nmX4 hown hK hAd hP hS (k0 := 30) (by omega) hM0 rfl 5 (by decide) (hG _ g_498) (fun _ h9 => h9) rfl (by decide +kernel) rfl rfl (Nat.le_of_ble_eq_true rfl) dX4_tell_217 (fun H locs hP hS => ?_)
                obtain ⟨E18x, hE18x⟩ : ∃ z9, z9 = va_up E17x 30 (.inr (4, [.int 0, .ref (adr 31), .ref (adr 32), .ref (adr 33), .ref (adr 34), .int (nI ((c_ct S) + 1)), .ref (adr 35), .ref (adr 36), .ref (adr 37), .ref (adr 38), .ref (adr 39), .ref (adr 40), .ref (adr 41), .ref (adr 42), .ref (adr 43), .ref (adr 44)])) := ⟨_, rfl⟩
                have hP : va_P D kcl (wl adr n E18x) H := by rw [hE18x]; exact hP
                have hF9 : ∀ j, j ≠ 30 → E18x j = E17x j := fun j z9 => by rw [hE18x, va_up_ne _ _ z9]
                have h45 : ∀ j, j < 30 ∨ 45 ≤ j → E18x j = E j := fun j hj => (hF9 j (by omega)).trans (h45 j hj)
                have hM1 := (hF9 31 (by omega)).trans hM1
                have hM2 := (hF9 32 (by omega)).trans hM2
                have hM3 := (hF9 33 (by omega)).trans hM3
                have hM4 := (hF9 34 (by omega)).trans hM4
                have hM5 := (hF9 35 (by omega)).trans hM5
                have hM6 := (hF9 36 (by omega)).trans hM6
                have hM7 := (hF9 37 (by omega)).trans hM7
                have hM8 := (hF9 38 (by omega)).trans hM8
                have hM9 := (hF9 39 (by omega)).trans hM9
                have hM10 := (hF9 40 (by omega)).trans hM10
                have hM11 := (hF9 41 (by omega)).trans hM11
                have hM12 := (hF9 42 (by omega)).trans hM12
                have hM13 := (hF9 43 (by omega)).trans hM13
                have hM14 := (hF9 44 (by omega)).trans hM14
                have hM0 : E18x 30 = .inr (4, [.int 0, .ref (adr 31), .ref (adr 32), .ref (adr 33), .ref (adr 34), .int (nI ((c_ct S) + 1)), .ref (adr 35), .ref (adr 36), .ref (adr 37), .ref (adr 38), .ref (adr 39), .ref (adr 40), .ref (adr 41), .ref (adr 42), .ref (adr 43), .ref (adr 44)]) := by rw [hE18x, va_up_self]
                have hR : RepM cA adr (t_ad S t b v) 0 E18x := by unfold t_ad; rw [if_pos hfd]; exact ⟨hM0, hM1, hM2, hM3, hM4, hM5, hM6, hM7, hM8, hM9, hM10, hM11, hM12, hM13, hM14⟩
                obtain ⟨A, hA⟩ : ∃ z9, z9 = t_ad S t b v := ⟨_, rfl⟩
                rw [← hA] at hR
                have hVA : Inv A := by rw [hA]; exact inv_ad hV ht hb3 (by omega) (fun h9 => by have := ix_new.mpr h9; omega)
                have hia : t_ix S t b v < c_ct A := by rw [hA]; exact ix_lt
                have hcA := hVA.1
                obtain ⟨hM0, hM1, hM2, hM3, hM4, hM5, hM6, hM7, hM8, hM9, hM10, hM11, hM12, hM13, hM14⟩ := id hR
                refine lv_aload_n hx hb dX4_tell_220 rfl (lv_at hl 6 rfl) ?_
                refine lv_iload_n hx hb dX4_tell_221 rfl (lv_at hl 7 rfl) ?_
                refine lv_iload hx hb dX4_tell_222 (lv_at hl 0 rfl) ?_
                refine wn_rV (rest := []) hx hb hml hown hG hN hP (cX4_has_r hn (S := A) hVA hR (d := d) (j := t_ix S t b v) hd (by omega)) (cwV 2 hG (gV g_583 g_585 gp_X4_has g_5 g_586) rfl rfl rfl (by decide +kernel) ⟨Nat.le_of_ble_eq_true rfl, Nat.le_of_ble_eq_true rfl⟩) (by omega) hM0 rfl rfl hl.1 rfl (Nat.le_of_ble_eq_true rfl) dX4_tell_224 ⟨Nat.le_of_ble_eq_true rfl, Nat.le_of_ble_eq_true rfl⟩ ?_
                refine lv_if_eq (tgt := 232) hx hb dX4_tell_227 (by decide) (fun c227 => ?_) (fun c227 => ?_)
                · have n227 : (c_has A d (t_ix S t b v)) = false := bI_0.mp c227
                  refine lv_iconst (v := 0) hx hb dX4_tell_232 (by decide) ?_
                  refine lv_istore (lv' := [(12, .int 0), (11, .int (nI (t_ix S t b v))), (10, .int 0), (9, .int (nI (b / 2 ^ 23 % 128))), (8, .int (nI (b / 2 ^ 20 % 8))), (7, .int (nI (b % 2 ^ 20))), (6, .int 0), (0, .ref (adr 30)), (1, .int (nI d)), (2, .int (nI t)), (3, .long x), (5, .int v)]) hx hb dX4_tell_233 hl (by decide) rfl (fun ls hl => ?_)
                  refine lv_iconst (v := 0) hx hb dX4_tell_235 (by decide) ?_
                  refine lv_istore (lv' := [(13, .int 0), (12, .int 0), (11, .int (nI (t_ix S t b v))), (10, .int 0), (9, .int (nI (b / 2 ^ 23 % 128))), (8, .int (nI (b / 2 ^ 20 % 8))), (7, .int (nI (b % 2 ^ 20))), (6, .int 0), (0, .ref (adr 30)), (1, .int (nI d)), (2, .int (nI t)), (3, .long x), (5, .int v)]) hx hb dX4_tell_236 hl (by decide) rfl (fun ls hl => ?_)
                  have L238 : ∀ (f : Nat) (j : Nat) (x9 : Bool), c_ct A - j < f → j ≤ c_ct A → anB (fun r => c_rv A (t_ix S t b v) r && c_has A d r) j = x9 → ∀ ls : Array Slot, lv_has ls 14 [(13, .int (nI j)), (12, .int (bI x9)), (0, .ref (adr 30)), (1, .int (nI d)), (11, .int (nI (t_ix S t b v)))] → W p l e (headSpec (.code yX4_tell cX4_tell 14 (some .int) :: lw_G) ({ frames := 2, cells := 0, slots := 0, locals := 43 } : Room)).room s m [.ref (adr 30), .int (nI d), .int (nI t), .long x, .int v].toArray below meth c H locs 0 0 (MQ below (wq D lo adr n (some (.int (if k_tell S (nI d) (nI t) x v = 0 then r_tell S (nI d).toNatClampNeg (nI t).toNatClampNeg (tN x) v else 0))) (fun E2 => RepM cA adr (if k_tell S (nI d) (nI t) x v = 0 then s_tell S (nI d).toNatClampNeg (nI t).toNatClampNeg (tN x) v else S) (nI (k_tell S (nI d) (nI t) x v)) E2 ∧ ∀ j, j < 30 ∨ 45 ≤ j → E2 j = E j)) [.ref (adr 30), .int (nI d), .int (nI t), .long x, .int v].toArray s 0 0 (fun q => lo ≤ q)) (F0 m 238 ls []) := by
                    intro f
                    induction f with
                    | zero => intro j x9 h0; exact absurd h0 (by omega)
                    | succ f ih238 =>
                      intro j x9 hf hj9 hq9 ls hl
                      refine lv_iload hx hb dX4_tell_238 (lv_at hl 0 rfl) ?_
                      refine lv_aload_n hx hb dX4_tell_240 rfl (lv_at hl 2 rfl) ?_
                      refine va_get (D := D) (ci := 4) (v := .int (nI (c_ct A))) (C := RX4) (T := TX4) (N := 16) hx hb hG inG_X4 hown hK hP 30 (wl_at (by omega) hM0) rfl 5 (by decide) (hG _ g_498) (fun _ h9 => h9) rfl dX4_tell_241 ?_
                      refine lv_icmp_ge (tgt := 286) hx hb dX4_tell_244 (by decide) (fun c244 => ?_) (fun c244 => ?_)
                      · have n244 : (c_ct A) ≤ j := (nI_leI (a := (c_ct A)) (b := j) (by omega) (by omega)).mp c244
                        refine lv_aload_n hx hb dX4_tell_286 rfl (lv_at hl 2 rfl) ?_
                        refine lv_iload_n hx hb dX4_tell_287 rfl (lv_at hl 3 rfl) ?_
                        refine lv_iload hx hb dX4_tell_288 (lv_at hl 4 rfl) ?_
                        refine wn_wV (rest := []) hx hb hml hown hG hN hP hS (cX4_comes_w hAd hn (S := A) hVA hR (d := d) (j := t_ix S t b v) hd (by omega)) (cwV 2 hG (gV g_591 g_593 gp_X4_comes g_5 g_594) rfl rfl rfl (by decide +kernel) ⟨Nat.le_of_ble_eq_true rfl, Nat.le_of_ble_eq_true rfl⟩) (by omega) hM0 rfl rfl hl.1 rfl (Nat.le_of_ble_eq_true rfl) dX4_tell_290 ⟨Nat.le_of_ble_eq_true rfl, Nat.le_of_ble_eq_true rfl⟩ (fun F19 H locs hFF hP hS => ?_)
                        obtain ⟨hR, fF⟩ := hFF
                        have h45 : ∀ j, j < 30 ∨ 45 ≤ j → F19 j = E j := fun j hj => (fF j (by omega) (by omega)).trans (h45 j hj)
                        refine lv_iload hx hb dX4_tell_293 (lv_at hl 1 rfl) ?_
                        refine lv_if_eq (tgt := 302) hx hb dX4_tell_295 (by decide) (fun c295 => ?_) (fun c295 => ?_)
                        · have n295 : x9 = false := bI_0.mp c295
                          refine lv_iconst (v := 0) hx hb dX4_tell_302 (by decide) ?_
                          have hk : k_tell S (nI d) (nI t) x v = 0 := by unfold k_tell; rw [n4, n11, hok, nI_clamp (by omega), ← hbt]; simp only [Bool.and_self, if_true]; exact if_neg (fun h9 => n119 ((ix_full hct).mpr h9))
                          exact W.iret (v := 0) hx hb hr (fun u9 ht _ => ⟨(by rw [hk, if_pos rfl]; exact congrArg (fun z => Outcome.returned (some (Value.int z))) (by rw [nI_clamp (by omega), nI_clamp (by omega), ← hbt]; unfold r_tell; rw [hasT_eq hV hd, ← hA, n227, show c_ct A = j from by omega, hq9, n295]; rfl)), F19, ⟨by rw [hk]; exact (by rw [nI_clamp (by omega), nI_clamp (by omega), ← hbt]; unfold s_tell; rw [hasT_eq hV hd, ← hA, n227]; exact hR), h45⟩, by rw [ht]; exact hP, hS.F ht⟩) hS.2.2 dX4_tell_303
                        · have n295 : x9 = true := bI_1.mp c295
                          refine lv_iconst (v := 2) hx hb dX4_tell_298 (by decide) ?_
                          refine lv_goto (tgt := 303) hx hb dX4_tell_299 (by decide) ?_
                          have hk : k_tell S (nI d) (nI t) x v = 0 := by unfold k_tell; rw [n4, n11, hok, nI_clamp (by omega), ← hbt]; simp only [Bool.and_self, if_true]; exact if_neg (fun h9 => n119 ((ix_full hct).mpr h9))
                          exact W.iret (v := 2) hx hb hr (fun u9 ht _ => ⟨(by rw [hk, if_pos rfl]; exact congrArg (fun z => Outcome.returned (some (Value.int z))) (by rw [nI_clamp (by omega), nI_clamp (by omega), ← hbt]; unfold r_tell; rw [hasT_eq hV hd, ← hA, n227, show c_ct A = j from by omega, hq9, n295]; rfl)), F19, ⟨by rw [hk]; exact (by rw [nI_clamp (by omega), nI_clamp (by omega), ← hbt]; unfold s_tell; rw [hasT_eq hV hd, ← hA, n227]; exact hR), h45⟩, by rw [ht]; exact hP, hS.F ht⟩) hS.2.2 dX4_tell_303
                      · have n244 : ¬ (c_ct A) ≤ j := fun h7 => c244 ((nI_leI (a := (c_ct A)) (b := j) (by omega) (by omega)).mpr h7)
                        refine lv_iload hx hb dX4_tell_247 (lv_at hl 1 rfl) ?_
                        refine lv_if_ne (tgt := 273) hx hb dX4_tell_249 (by decide) (fun c249 => ?_) (fun c249 => ?_)
                        · have n249 : x9 = true := bI_1.mp c249
                          refine lv_iconst (v := 1) hx hb dX4_tell_273 (by decide) ?_
                          refine lv_goto (tgt := 278) hx hb dX4_tell_274 (by decide) ?_
                          refine lv_istore (lv' := [(12, .int 1), (13, .int (nI j)), (0, .ref (adr 30)), (1, .int (nI d)), (11, .int (nI (t_ix S t b v)))]) hx hb dX4_tell_278 hl (by decide) rfl (fun ls hl => ?_)
                          refine lv_iinc (v := nI (j + 1)) (lv' := [(13, .int (nI (j + 1))), (12, .int 1), (0, .ref (adr 30)), (1, .int (nI d)), (11, .int (nI (t_ix S t b v)))]) hx hb dX4_tell_280 hl (k := 1) rfl (nI_1 _) (by decide) rfl (fun ls hl => ?_)
                          refine lv_goto (tgt := 238) hx hb dX4_tell_283 (by decide) ?_
                          exact ih238 (j + 1) true (by omega) (by omega) (by show (anB (fun r => c_rv A (t_ix S t b v) r && c_has A d r) j || (c_rv A (t_ix S t b v) j && c_has A d j)) = _; rw [hq9]; first | (rw [n249]; rfl) | (rw [n249, n260]; rfl) | (rw [n249, n260, n270]; rfl)) ls (lv_sub hl [0, 1, 2, 3, 4] rfl)
                        · have n249 : x9 = false := bI_0.mp c249
                          refine lv_aload_n hx hb dX4_tell_252 rfl (lv_at hl 2 rfl) ?_
                          refine lv_iload hx hb dX4_tell_253 (lv_at hl 4 rfl) ?_
                          refine lv_iload hx hb dX4_tell_255 (lv_at hl 0 rfl) ?_
                          refine wn_rV (rest := []) hx hb hml hown hG hN hP (cX4_areRivals_r hn (S := A) hVA hR (i := t_ix S t b v) (j := j) (by omega) (by omega)) (cwV 2 hG (gV g_587 g_589 gp_X4_areRivals g_5 g_590) rfl rfl rfl (by decide +kernel) ⟨Nat.le_of_ble_eq_true rfl, Nat.le_of_ble_eq_true rfl⟩) (by omega) hM0 rfl rfl hl.1 rfl (Nat.le_of_ble_eq_true rfl) dX4_tell_257 ⟨Nat.le_of_ble_eq_true rfl, Nat.le_of_ble_eq_true rfl⟩ ?_
                          refine lv_if_eq (tgt := 277) hx hb dX4_tell_260 (by decide) (fun c260 => ?_) (fun c260 => ?_)
                          · have n260 : (c_rv A (t_ix S t b v) j) = false := bI_0.mp c260
                            refine lv_iconst (v := 0) hx hb dX4_tell_277 (by decide) ?_
                            refine lv_istore (lv' := [(12, .int 0), (13, .int (nI j)), (0, .ref (adr 30)), (1, .int (nI d)), (11, .int (nI (t_ix S t b v)))]) hx hb dX4_tell_278 hl (by decide) rfl (fun ls hl => ?_)
                            refine lv_iinc (v := nI (j + 1)) (lv' := [(13, .int (nI (j + 1))), (12, .int 0), (0, .ref (adr 30)), (1, .int (nI d)), (11, .int (nI (t_ix S t b v)))]) hx hb dX4_tell_280 hl (k := 1) rfl (nI_1 _) (by decide) rfl (fun ls hl => ?_)
                            refine lv_goto (tgt := 238) hx hb dX4_tell_283 (by decide) ?_
                            exact ih238 (j + 1) false (by omega) (by omega) (by show (anB (fun r => c_rv A (t_ix S t b v) r && c_has A d r) j || (c_rv A (t_ix S t b v) j && c_has A d j)) = _; rw [hq9]; first | (rw [n249]; rfl) | (rw [n249, n260]; rfl) | (rw [n249, n260, n270]; rfl)) ls (lv_sub hl [0, 1, 2, 3, 4] rfl)
                          · have n260 : (c_rv A (t_ix S t b v) j) = true := bI_1.mp c260
                            refine lv_aload_n hx hb dX4_tell_263 rfl (lv_at hl 2 rfl) ?_
                            refine lv_iload_n hx hb dX4_tell_264 rfl (lv_at hl 3 rfl) ?_
                            refine lv_iload hx hb dX4_tell_265 (lv_at hl 0 rfl) ?_
                            refine wn_rV (rest := []) hx hb hml hown hG hN hP (cX4_has_r hn (S := A) hVA hR (d := d) (j := j) hd (by omega)) (cwV 2 hG (gV g_583 g_585 gp_X4_has g_5 g_586) rfl rfl rfl (by decide +kernel) ⟨Nat.le_of_ble_eq_true rfl, Nat.le_of_ble_eq_true rfl⟩) (by omega) hM0 rfl rfl hl.1 rfl (Nat.le_of_ble_eq_true rfl) dX4_tell_267 ⟨Nat.le_of_ble_eq_true rfl, Nat.le_of_ble_eq_true rfl⟩ ?_
                            refine lv_if_eq (tgt := 277) hx hb dX4_tell_270 (by decide) (fun c270 => ?_) (fun c270 => ?_)
                            · have n270 : (c_has A d j) = false := bI_0.mp c270
                              refine lv_iconst (v := 0) hx hb dX4_tell_277 (by decide) ?_
                              refine lv_istore (lv' := [(12, .int 0), (13, .int (nI j)), (0, .ref (adr 30)), (1, .int (nI d)), (11, .int (nI (t_ix S t b v)))]) hx hb dX4_tell_278 hl (by decide) rfl (fun ls hl => ?_)
                              refine lv_iinc (v := nI (j + 1)) (lv' := [(13, .int (nI (j + 1))), (12, .int 0), (0, .ref (adr 30)), (1, .int (nI d)), (11, .int (nI (t_ix S t b v)))]) hx hb dX4_tell_280 hl (k := 1) rfl (nI_1 _) (by decide) rfl (fun ls hl => ?_)
                              refine lv_goto (tgt := 238) hx hb dX4_tell_283 (by decide) ?_
                              exact ih238 (j + 1) false (by omega) (by omega) (by show (anB (fun r => c_rv A (t_ix S t b v) r && c_has A d r) j || (c_rv A (t_ix S t b v) j && c_has A d j)) = _; rw [hq9]; first | (rw [n249]; rfl) | (rw [n249, n260]; rfl) | (rw [n249, n260, n270]; rfl)) ls (lv_sub hl [0, 1, 2, 3, 4] rfl)
                            · have n270 : (c_has A d j) = true := bI_1.mp c270
                              refine lv_iconst (v := 1) hx hb dX4_tell_273 (by decide) ?_
                              refine lv_goto (tgt := 278) hx hb dX4_tell_274 (by decide) ?_
                              refine lv_istore (lv' := [(12, .int 1), (13, .int (nI j)), (0, .ref (adr 30)), (1, .int (nI d)), (11, .int (nI (t_ix S t b v)))]) hx hb dX4_tell_278 hl (by decide) rfl (fun ls hl => ?_)
                              refine lv_iinc (v := nI (j + 1)) (lv' := [(13, .int (nI (j + 1))), (12, .int 1), (0, .ref (adr 30)), (1, .int (nI d)), (11, .int (nI (t_ix S t b v)))]) hx hb dX4_tell_280 hl (k := 1) rfl (nI_1 _) (by decide) rfl (fun ls hl => ?_)
                              refine lv_goto (tgt := 238) hx hb dX4_tell_283 (by decide) ?_
                              exact ih238 (j + 1) true (by omega) (by omega) (by show (anB (fun r => c_rv A (t_ix S t b v) r && c_has A d r) j || (c_rv A (t_ix S t b v) j && c_has A d j)) = _; rw [hq9]; first | (rw [n249]; rfl) | (rw [n249, n260]; rfl) | (rw [n249, n260, n270]; rfl)) ls (lv_sub hl [0, 1, 2, 3, 4] rfl)
                  exact L238 (c_ct A + 1) 0 false (by omega) (by omega) rfl ls (lv_sub hl [0, 1, 8, 9, 2] rfl)
                · have n227 : (c_has A d (t_ix S t b v)) = true := bI_1.mp c227
                  refine lv_iconst (v := 1) hx hb dX4_tell_230 (by decide) ?_
                  have hk : k_tell S (nI d) (nI t) x v = 0 := by unfold k_tell; rw [n4, n11, hok, nI_clamp (by omega), ← hbt]; simp only [Bool.and_self, if_true]; exact if_neg (fun h9 => n119 ((ix_full hct).mpr h9))
                  exact W.iret (v := 1) hx hb hr (fun u9 ht _ => ⟨(by rw [hk, if_pos rfl]; exact congrArg (fun z => Outcome.returned (some (Value.int z))) (by rw [nI_clamp (by omega), nI_clamp (by omega), ← hbt]; unfold r_tell; rw [hasT_eq hV hd, ← hA, n227]; rfl)), E18x, ⟨by rw [hk]; exact (by rw [nI_clamp (by omega), nI_clamp (by omega), ← hbt]; unfold s_tell; rw [hasT_eq hV hd, ← hA, n227]; exact hR), h45⟩, by rw [ht]; exact hP, hS.F ht⟩) hS.2.2 dX4_tell_231
            · have n119 : (t_ix S t b v) = 120 := (nI_eq (a := (t_ix S t b v)) (b := 120) (by omega) (by omega)).mp c119
              refine lv_iconst (v := 1) hx hb dX4_tell_122 (by decide) ?_
              refine lv_goto (tgt := 127) hx hb dX4_tell_123 (by decide) ?_
              refine lv_iconst (v := 0) hx hb dX4_tell_127 (by decide) ?_
              refine wn_wV (rest := []) hx hb hml hown hG hN hP hS (cX4_throwing_w hAd hn hV hR false false true false) (cwV 4 hG (gV g_557 g_559 gp_X4_throwing g_5 g_560) rfl rfl rfl (by decide +kernel) ⟨Nat.le_of_ble_eq_true rfl, Nat.le_of_ble_eq_true rfl⟩) (by omega) hM0 rfl rfl hl.1 rfl (Nat.le_of_ble_eq_true rfl) dX4_tell_128 ⟨Nat.le_of_ble_eq_true rfl, Nat.le_of_ble_eq_true rfl⟩ (fun F20 H locs hFF hP hS => ?_)
              obtain ⟨hR, fF⟩ := hFF
              have h45 : ∀ j, j < 30 ∨ 45 ≤ j → F20 j = E j := fun j hj => (fF j (by omega)).trans (h45 j hj)
              obtain ⟨hM0, hM1, hM2, hM3, hM4, hM5, hM6, hM7, hM8, hM9, hM10, hM11, hM12, hM13, hM14⟩ := id hR
              refine lv_if_eq (tgt := 136) hx hb dX4_tell_131 (by decide) (fun c131 => absurd c131 (by decide)) (fun c131 => ?_)
              refine lv_iconst (v := 0) hx hb dX4_tell_134 (by decide) ?_
              have hk : k_tell S (nI d) (nI t) x v = 3 := by unfold k_tell; rw [n4, n11, hok, nI_clamp (by omega), ← hbt]; simp only [Bool.and_self, if_true]; exact if_pos ((ix_full hct).mp n119)
              exact W.iret (v := 0) hx hb hr (fun u9 ht _ => ⟨(by rw [hk]; rfl), F20, ⟨by rw [hk]; exact hR, h45⟩, by rw [ht]; exact hP, hS.F ht⟩) hS.2.2 dX4_tell_135
          · have hok : tOK x = false := by unfold tOK; rw [decide_eq_false (show ¬ tN x < 2 ^ 30 from fun h9 => c71 ((lg_cmp_eq _ _).mpr ((td_hi x 30 (by decide)).mpr h9)))]; simp
            refine lv_iconst (v := 1) hx hb dX4_tell_74 (by decide) ?_
            refine lv_goto (tgt := 79) hx hb dX4_tell_75 (by decide) ?_
            refine lv_istore (lv' := [(10, .int 1), (9, .int (nI (b / 2 ^ 23 % 128))), (8, .int (nI (b / 2 ^ 20 % 8))), (7, .int (nI (b % 2 ^ 20))), (6, .int 0), (0, .ref (adr 30)), (1, .int (nI d)), (2, .int (nI t)), (3, .long x), (5, .int v)]) hx hb dX4_tell_79 hl (by decide) rfl (fun ls hl => ?_)
            refine lv_iload hx hb dX4_tell_81 (lv_at hl 4 rfl) ?_
            refine lv_if_eq (tgt := 90) hx hb dX4_tell_83 (by decide) (fun c83 => ?_) (fun c83 => absurd (by decide) c83)
            refine lv_aload_n hx hb dX4_tell_90 rfl (lv_at hl 5 rfl) ?_
            refine lv_iload_n hx hb dX4_tell_91 rfl (lv_at hl 7 rfl) ?_
            refine lv_iload hx hb dX4_tell_92 (lv_at hl 3 rfl) ?_
            refine lv_iload hx hb dX4_tell_94 (lv_at hl 2 rfl) ?_
            refine lv_iload hx hb dX4_tell_96 (lv_at hl 1 rfl) ?_
            refine lv_iload hx hb dX4_tell_98 (lv_at hl 9 rfl) ?_
            refine wn_rV (rest := []) hx hb hml hown hG hN hP (cX4_find_r hn hV hR (t := t) (b := b) ht hb3 v) (cwV 5 hG (gV g_579 g_581 gp_X4_find g_5 g_582) rfl rfl rfl (by decide +kernel) ⟨Nat.le_of_ble_eq_true rfl, Nat.le_of_ble_eq_true rfl⟩) (by omega) hM0 rfl rfl hl.1 rfl (Nat.le_of_ble_eq_true rfl) dX4_tell_100 ⟨Nat.le_of_ble_eq_true rfl, Nat.le_of_ble_eq_true rfl⟩ ?_
            have bix := ix_le (S := S) (t := t) (b := b) (v := v)
            refine lv_istore (lv' := [(11, .int (nI (t_ix S t b v))), (10, .int 1), (9, .int (nI (b / 2 ^ 23 % 128))), (8, .int (nI (b / 2 ^ 20 % 8))), (7, .int (nI (b % 2 ^ 20))), (6, .int 0), (0, .ref (adr 30)), (1, .int (nI d)), (2, .int (nI t)), (3, .long x), (5, .int v)]) hx hb dX4_tell_103 hl (by decide) rfl (fun ls hl => ?_)
            refine lv_aload_n hx hb dX4_tell_105 rfl (lv_at hl 6 rfl) ?_
            refine lv_iload hx hb dX4_tell_106 (lv_at hl 5 rfl) ?_
            refine lv_iload hx hb dX4_tell_108 (lv_at hl 1 rfl) ?_
            refine lv_iload hx hb dX4_tell_110 (lv_at hl 5 rfl) ?_
            refine lv_if_ne (tgt := 126) hx hb dX4_tell_112 (by decide) (fun c112 => absurd (by decide) c112) (fun c112 => ?_)
            refine lv_iload hx hb dX4_tell_115 (lv_at hl 0 rfl) ?_
            refine lv_bipush (v := 120) hx hb dX4_tell_117 (by decide) ?_
            refine lv_icmp_ne (tgt := 126) hx hb dX4_tell_119 (by decide) (fun c119 => ?_) (fun c119 => ?_)
            · have n119 : ¬ (t_ix S t b v) = 120 := fun h7 => c119 ((nI_eq (a := (t_ix S t b v)) (b := 120) (by omega) (by omega)).mpr h7)
              refine lv_iconst (v := 0) hx hb dX4_tell_126 (by decide) ?_
              refine lv_iconst (v := 0) hx hb dX4_tell_127 (by decide) ?_
              refine wn_wV (rest := []) hx hb hml hown hG hN hP hS (cX4_throwing_w hAd hn hV hR false true false false) (cwV 4 hG (gV g_557 g_559 gp_X4_throwing g_5 g_560) rfl rfl rfl (by decide +kernel) ⟨Nat.le_of_ble_eq_true rfl, Nat.le_of_ble_eq_true rfl⟩) (by omega) hM0 rfl rfl hl.1 rfl (Nat.le_of_ble_eq_true rfl) dX4_tell_128 ⟨Nat.le_of_ble_eq_true rfl, Nat.le_of_ble_eq_true rfl⟩ (fun F21 H locs hFF hP hS => ?_)
              obtain ⟨hR, fF⟩ := hFF
              have h45 : ∀ j, j < 30 ∨ 45 ≤ j → F21 j = E j := fun j hj => (fF j (by omega)).trans (h45 j hj)
              obtain ⟨hM0, hM1, hM2, hM3, hM4, hM5, hM6, hM7, hM8, hM9, hM10, hM11, hM12, hM13, hM14⟩ := id hR
              refine lv_if_eq (tgt := 136) hx hb dX4_tell_131 (by decide) (fun c131 => absurd c131 (by decide)) (fun c131 => ?_)
              refine lv_iconst (v := 0) hx hb dX4_tell_134 (by decide) ?_
              have hk : k_tell S (nI d) (nI t) x v = 2 := by unfold k_tell; rw [n4, n11, hok]; rfl
              exact W.iret (v := 0) hx hb hr (fun u9 ht _ => ⟨(by rw [hk]; rfl), F21, ⟨by rw [hk]; exact hR, h45⟩, by rw [ht]; exact hP, hS.F ht⟩) hS.2.2 dX4_tell_135
            · have n119 : (t_ix S t b v) = 120 := (nI_eq (a := (t_ix S t b v)) (b := 120) (by omega) (by omega)).mp c119
              refine lv_iconst (v := 1) hx hb dX4_tell_122 (by decide) ?_
              refine lv_goto (tgt := 127) hx hb dX4_tell_123 (by decide) ?_
              refine lv_iconst (v := 0) hx hb dX4_tell_127 (by decide) ?_
              refine wn_wV (rest := []) hx hb hml hown hG hN hP hS (cX4_throwing_w hAd hn hV hR false true true false) (cwV 4 hG (gV g_557 g_559 gp_X4_throwing g_5 g_560) rfl rfl rfl (by decide +kernel) ⟨Nat.le_of_ble_eq_true rfl, Nat.le_of_ble_eq_true rfl⟩) (by omega) hM0 rfl rfl hl.1 rfl (Nat.le_of_ble_eq_true rfl) dX4_tell_128 ⟨Nat.le_of_ble_eq_true rfl, Nat.le_of_ble_eq_true rfl⟩ (fun F22 H locs hFF hP hS => ?_)
              obtain ⟨hR, fF⟩ := hFF
              have h45 : ∀ j, j < 30 ∨ 45 ≤ j → F22 j = E j := fun j hj => (fF j (by omega)).trans (h45 j hj)
              obtain ⟨hM0, hM1, hM2, hM3, hM4, hM5, hM6, hM7, hM8, hM9, hM10, hM11, hM12, hM13, hM14⟩ := id hR
              refine lv_if_eq (tgt := 136) hx hb dX4_tell_131 (by decide) (fun c131 => absurd c131 (by decide)) (fun c131 => ?_)
              refine lv_iconst (v := 0) hx hb dX4_tell_134 (by decide) ?_
              have hk : k_tell S (nI d) (nI t) x v = 2 := by unfold k_tell; rw [n4, n11, hok]; rfl
              exact W.iret (v := 0) hx hb hr (fun u9 ht _ => ⟨(by rw [hk]; rfl), F22, ⟨by rw [hk]; exact hR, h45⟩, by rw [ht]; exact hP, hS.F ht⟩) hS.2.2 dX4_tell_135
    · have n11 : (inN tt 5) = false := bI_0.mp c11
      refine lv_iconst (v := 1) hx hb dX4_tell_14 (by decide) ?_
      refine lv_goto (tgt := 19) hx hb dX4_tell_15 (by decide) ?_
      refine lv_istore (lv' := [(6, .int 1), (0, .ref (adr 30)), (1, .int dd), (2, .int tt), (3, .long x), (5, .int v)]) hx hb dX4_tell_19 hl (by decide) rfl (fun ls hl => ?_)
      refine lv_lload_n hx hb dX4_tell_21 rfl (lv_at hl 4 rfl) ?_
      refine lv_ldc2 hx hb hown (hG _ g_576) dX4_tell_22 ?_
      refine lv_land hx hb dX4_tell_25 ?_
      refine lv_l2i (v := (x &&& 1048575).toInt32) hx hb dX4_tell_26 rfl ?_
      refine lv_topi (fun y9 e9 => ?_)
      have e9 : y9 = nI (b % 2 ^ 20) := e9.trans ((td_lo x 1048575 20 (by decide) (by decide)).trans (congrArg nI (by rw [hbx]; omega)))
      subst e9
      refine lv_istore (lv' := [(7, .int (nI (b % 2 ^ 20))), (6, .int 1), (0, .ref (adr 30)), (1, .int dd), (2, .int tt), (3, .long x), (5, .int v)]) hx hb dX4_tell_27 hl (by decide) rfl (fun ls hl => ?_)
      refine lv_lload_n hx hb dX4_tell_29 rfl (lv_at hl 5 rfl) ?_
      refine lv_bipush (v := 20) hx hb dX4_tell_30 (by decide) ?_
      refine lv_lshr (v := x >>> ((20 : Int32).toInt64 &&& 63)) hx hb dX4_tell_32 rfl ?_
      refine lv_ldc2 hx hb hown (hG _ g_577) dX4_tell_33 ?_
      refine lv_land hx hb dX4_tell_36 ?_
      refine lv_l2i (v := ((x >>> ((20 : Int32).toInt64 &&& 63)) &&& 7).toInt32) hx hb dX4_tell_37 rfl ?_
      refine lv_topi (fun y9 e9 => ?_)
      have e9 : y9 = nI (b / 2 ^ 20 % 8) := e9.trans ((td_bits x 20 7 20 3 (by decide) (by decide) (by decide) (by decide)).trans (congrArg nI (by rw [hbx]; omega)))
      subst e9
      refine lv_istore (lv' := [(8, .int (nI (b / 2 ^ 20 % 8))), (7, .int (nI (b % 2 ^ 20))), (6, .int 1), (0, .ref (adr 30)), (1, .int dd), (2, .int tt), (3, .long x), (5, .int v)]) hx hb dX4_tell_38 hl (by decide) rfl (fun ls hl => ?_)
      refine lv_lload_n hx hb dX4_tell_40 rfl (lv_at hl 6 rfl) ?_
      refine lv_bipush (v := 23) hx hb dX4_tell_41 (by decide) ?_
      refine lv_lshr (v := x >>> ((23 : Int32).toInt64 &&& 63)) hx hb dX4_tell_43 rfl ?_
      refine lv_ldc2 hx hb hown (hG _ g_578) dX4_tell_44 ?_
      refine lv_land hx hb dX4_tell_47 ?_
      refine lv_l2i (v := ((x >>> ((23 : Int32).toInt64 &&& 63)) &&& 127).toInt32) hx hb dX4_tell_48 rfl ?_
      refine lv_topi (fun y9 e9 => ?_)
      have e9 : y9 = nI (b / 2 ^ 23 % 128) := e9.trans ((td_bits x 23 127 23 7 (by decide) (by decide) (by decide) (by decide)).trans (congrArg nI (by rw [hbx]; omega)))
      subst e9
      refine lv_istore (lv' := [(9, .int (nI (b / 2 ^ 23 % 128))), (8, .int (nI (b / 2 ^ 20 % 8))), (7, .int (nI (b % 2 ^ 20))), (6, .int 1), (0, .ref (adr 30)), (1, .int dd), (2, .int tt), (3, .long x), (5, .int v)]) hx hb dX4_tell_49 hl (by decide) rfl (fun ls hl => ?_)
      refine lv_iload hx hb dX4_tell_51 (lv_at hl 2 rfl) ?_
      refine lv_ldc hx hb hown (hG _ g_556) dX4_tell_53 ?_
      refine lv_icmp_gt (tgt := 74) hx hb dX4_tell_55 (by decide) (fun c55 => ?_) (fun c55 => ?_)
      · have n55 : 1000000 < (b % 2 ^ 20) := (nI_ltI (a := 1000000) (b := (b % 2 ^ 20)) (by omega) (by omega)).mp c55
        have hok : tOK x = false := by unfold tOK; rw [decide_eq_false (show ¬ tN x % 2 ^ 20 < 1000001 by rw [hbx] at n55; omega)]; simp
        refine lv_iconst (v := 1) hx hb dX4_tell_74 (by decide) ?_
        refine lv_goto (tgt := 79) hx hb dX4_tell_75 (by decide) ?_
        refine lv_istore (lv' := [(10, .int 1), (9, .int (nI (b / 2 ^ 23 % 128))), (8, .int (nI (b / 2 ^ 20 % 8))), (7, .int (nI (b % 2 ^ 20))), (6, .int 1), (0, .ref (adr 30)), (1, .int dd), (2, .int tt), (3, .long x), (5, .int v)]) hx hb dX4_tell_79 hl (by decide) rfl (fun ls hl => ?_)
        refine lv_iload hx hb dX4_tell_81 (lv_at hl 4 rfl) ?_
        refine lv_if_eq (tgt := 90) hx hb dX4_tell_83 (by decide) (fun c83 => absurd c83 (by decide)) (fun c83 => ?_)
        refine lv_iconst (v := 0) hx hb dX4_tell_86 (by decide) ?_
        refine lv_goto (tgt := 103) hx hb dX4_tell_87 (by decide) ?_
        refine lv_istore (lv' := [(11, .int 0), (10, .int 1), (9, .int (nI (b / 2 ^ 23 % 128))), (8, .int (nI (b / 2 ^ 20 % 8))), (7, .int (nI (b % 2 ^ 20))), (6, .int 1), (0, .ref (adr 30)), (1, .int dd), (2, .int tt), (3, .long x), (5, .int v)]) hx hb dX4_tell_103 hl (by decide) rfl (fun ls hl => ?_)
        refine lv_aload_n hx hb dX4_tell_105 rfl (lv_at hl 6 rfl) ?_
        refine lv_iload hx hb dX4_tell_106 (lv_at hl 5 rfl) ?_
        refine lv_iload hx hb dX4_tell_108 (lv_at hl 1 rfl) ?_
        refine lv_iload hx hb dX4_tell_110 (lv_at hl 5 rfl) ?_
        refine lv_if_ne (tgt := 126) hx hb dX4_tell_112 (by decide) (fun c112 => ?_) (fun c112 => absurd c112 (by decide))
        refine lv_iconst (v := 0) hx hb dX4_tell_126 (by decide) ?_
        refine lv_iconst (v := 0) hx hb dX4_tell_127 (by decide) ?_
        refine wn_wV (rest := []) hx hb hml hown hG hN hP hS (cX4_throwing_w hAd hn hV hR true true false false) (cwV 4 hG (gV g_557 g_559 gp_X4_throwing g_5 g_560) rfl rfl rfl (by decide +kernel) ⟨Nat.le_of_ble_eq_true rfl, Nat.le_of_ble_eq_true rfl⟩) (by omega) hM0 rfl rfl hl.1 rfl (Nat.le_of_ble_eq_true rfl) dX4_tell_128 ⟨Nat.le_of_ble_eq_true rfl, Nat.le_of_ble_eq_true rfl⟩ (fun F23 H locs hFF hP hS => ?_)
        obtain ⟨hR, fF⟩ := hFF
        have h45 : ∀ j, j < 30 ∨ 45 ≤ j → F23 j = E j := fun j hj => (fF j (by omega)).trans (h45 j hj)
        obtain ⟨hM0, hM1, hM2, hM3, hM4, hM5, hM6, hM7, hM8, hM9, hM10, hM11, hM12, hM13, hM14⟩ := id hR
        refine lv_if_eq (tgt := 136) hx hb dX4_tell_131 (by decide) (fun c131 => absurd c131 (by decide)) (fun c131 => ?_)
        refine lv_iconst (v := 0) hx hb dX4_tell_134 (by decide) ?_
        have hk : k_tell S dd tt x v = 1 := by unfold k_tell; first | (rw [n4]; rfl) | (rw [n11, Bool.and_false]; rfl)
        exact W.iret (v := 0) hx hb hr (fun u9 ht _ => ⟨(by rw [hk]; rfl), F23, ⟨by rw [hk]; exact hR, h45⟩, by rw [ht]; exact hP, hS.F ht⟩) hS.2.2 dX4_tell_135
      · have n55 : ¬ 1000000 < (b % 2 ^ 20) := fun h7 => c55 ((nI_ltI (a := 1000000) (b := (b % 2 ^ 20)) (by omega) (by omega)).mpr h7)
        refine lv_iload hx hb dX4_tell_58 (lv_at hl 0 rfl) ?_
        refine lv_bipush (v := 99) hx hb dX4_tell_60 (by decide) ?_
        refine lv_icmp_gt (tgt := 74) hx hb dX4_tell_62 (by decide) (fun c62 => ?_) (fun c62 => ?_)
        · have n62 : 99 < (b / 2 ^ 23 % 128) := (nI_ltI (a := 99) (b := (b / 2 ^ 23 % 128)) (by omega) (by omega)).mp c62
          have hok : tOK x = false := by unfold tOK; rw [decide_eq_false (show ¬ tN x / 2 ^ 23 % 128 < 100 by rw [hbx] at n62; omega)]; simp
          refine lv_iconst (v := 1) hx hb dX4_tell_74 (by decide) ?_
          refine lv_goto (tgt := 79) hx hb dX4_tell_75 (by decide) ?_
          refine lv_istore (lv' := [(10, .int 1), (9, .int (nI (b / 2 ^ 23 % 128))), (8, .int (nI (b / 2 ^ 20 % 8))), (7, .int (nI (b % 2 ^ 20))), (6, .int 1), (0, .ref (adr 30)), (1, .int dd), (2, .int tt), (3, .long x), (5, .int v)]) hx hb dX4_tell_79 hl (by decide) rfl (fun ls hl => ?_)
          refine lv_iload hx hb dX4_tell_81 (lv_at hl 4 rfl) ?_
          refine lv_if_eq (tgt := 90) hx hb dX4_tell_83 (by decide) (fun c83 => absurd c83 (by decide)) (fun c83 => ?_)
          refine lv_iconst (v := 0) hx hb dX4_tell_86 (by decide) ?_
          refine lv_goto (tgt := 103) hx hb dX4_tell_87 (by decide) ?_
          refine lv_istore (lv' := [(11, .int 0), (10, .int 1), (9, .int (nI (b / 2 ^ 23 % 128))), (8, .int (nI (b / 2 ^ 20 % 8))), (7, .int (nI (b % 2 ^ 20))), (6, .int 1), (0, .ref (adr 30)), (1, .int dd), (2, .int tt), (3, .long x), (5, .int v)]) hx hb dX4_tell_103 hl (by decide) rfl (fun ls hl => ?_)
          refine lv_aload_n hx hb dX4_tell_105 rfl (lv_at hl 6 rfl) ?_
          refine lv_iload hx hb dX4_tell_106 (lv_at hl 5 rfl) ?_
          refine lv_iload hx hb dX4_tell_108 (lv_at hl 1 rfl) ?_
          refine lv_iload hx hb dX4_tell_110 (lv_at hl 5 rfl) ?_
          refine lv_if_ne (tgt := 126) hx hb dX4_tell_112 (by decide) (fun c112 => ?_) (fun c112 => absurd c112 (by decide))
          refine lv_iconst (v := 0) hx hb dX4_tell_126 (by decide) ?_
          refine lv_iconst (v := 0) hx hb dX4_tell_127 (by decide) ?_
          refine wn_wV (rest := []) hx hb hml hown hG hN hP hS (cX4_throwing_w hAd hn hV hR true true false false) (cwV 4 hG (gV g_557 g_559 gp_X4_throwing g_5 g_560) rfl rfl rfl (by decide +kernel) ⟨Nat.le_of_ble_eq_true rfl, Nat.le_of_ble_eq_true rfl⟩) (by omega) hM0 rfl rfl hl.1 rfl (Nat.le_of_ble_eq_true rfl) dX4_tell_128 ⟨Nat.le_of_ble_eq_true rfl, Nat.le_of_ble_eq_true rfl⟩ (fun F24 H locs hFF hP hS => ?_)
          obtain ⟨hR, fF⟩ := hFF
          have h45 : ∀ j, j < 30 ∨ 45 ≤ j → F24 j = E j := fun j hj => (fF j (by omega)).trans (h45 j hj)
          obtain ⟨hM0, hM1, hM2, hM3, hM4, hM5, hM6, hM7, hM8, hM9, hM10, hM11, hM12, hM13, hM14⟩ := id hR
          refine lv_if_eq (tgt := 136) hx hb dX4_tell_131 (by decide) (fun c131 => absurd c131 (by decide)) (fun c131 => ?_)
          refine lv_iconst (v := 0) hx hb dX4_tell_134 (by decide) ?_
          have hk : k_tell S dd tt x v = 1 := by unfold k_tell; first | (rw [n4]; rfl) | (rw [n11, Bool.and_false]; rfl)
          exact W.iret (v := 0) hx hb hr (fun u9 ht _ => ⟨(by rw [hk]; rfl), F24, ⟨by rw [hk]; exact hR, h45⟩, by rw [ht]; exact hP, hS.F ht⟩) hS.2.2 dX4_tell_135
        · have n62 : ¬ 99 < (b / 2 ^ 23 % 128) := fun h7 => c62 ((nI_ltI (a := 99) (b := (b / 2 ^ 23 % 128)) (by omega) (by omega)).mpr h7)
          refine lv_lload_n hx hb dX4_tell_65 rfl (lv_at hl 7 rfl) ?_
          refine lv_bipush (v := 30) hx hb dX4_tell_66 (by decide) ?_
          refine lv_lshr (v := x >>> ((30 : Int32).toInt64 &&& 63)) hx hb dX4_tell_68 rfl ?_
          refine lv_lconst (v := 0) hx hb dX4_tell_69 (by decide) ?_
          refine W.lcmp hx hb dX4_tell_70 ?_
          refine lv_if_eq (tgt := 78) hx hb dX4_tell_71 (by decide) (fun c71 => ?_) (fun c71 => ?_)
          · have h30 : tN x < 2 ^ 30 := (td_hi x 30 (by decide)).mp ((lg_cmp_eq _ _).mp c71)
            have hbt : b = tN x := by rw [hbx]; omega
            have hok : tOK x = true := by unfold tOK; rw [decide_eq_true h30, decide_eq_true (show tN x % 2 ^ 20 < 1000001 by rw [hbt] at n55; omega), decide_eq_true (show tN x / 2 ^ 23 % 128 < 100 by rw [hbt] at n62; omega)]; rfl
            refine lv_iconst (v := 0) hx hb dX4_tell_78 (by decide) ?_
            refine lv_istore (lv' := [(10, .int 0), (9, .int (nI (b / 2 ^ 23 % 128))), (8, .int (nI (b / 2 ^ 20 % 8))), (7, .int (nI (b % 2 ^ 20))), (6, .int 1), (0, .ref (adr 30)), (1, .int dd), (2, .int tt), (3, .long x), (5, .int v)]) hx hb dX4_tell_79 hl (by decide) rfl (fun ls hl => ?_)
            refine lv_iload hx hb dX4_tell_81 (lv_at hl 4 rfl) ?_
            refine lv_if_eq (tgt := 90) hx hb dX4_tell_83 (by decide) (fun c83 => absurd c83 (by decide)) (fun c83 => ?_)
            refine lv_iconst (v := 0) hx hb dX4_tell_86 (by decide) ?_
            refine lv_goto (tgt := 103) hx hb dX4_tell_87 (by decide) ?_
            refine lv_istore (lv' := [(11, .int 0), (10, .int 0), (9, .int (nI (b / 2 ^ 23 % 128))), (8, .int (nI (b / 2 ^ 20 % 8))), (7, .int (nI (b % 2 ^ 20))), (6, .int 1), (0, .ref (adr 30)), (1, .int dd), (2, .int tt), (3, .long x), (5, .int v)]) hx hb dX4_tell_103 hl (by decide) rfl (fun ls hl => ?_)
            refine lv_aload_n hx hb dX4_tell_105 rfl (lv_at hl 6 rfl) ?_
            refine lv_iload hx hb dX4_tell_106 (lv_at hl 5 rfl) ?_
            refine lv_iload hx hb dX4_tell_108 (lv_at hl 1 rfl) ?_
            refine lv_iload hx hb dX4_tell_110 (lv_at hl 5 rfl) ?_
            refine lv_if_ne (tgt := 126) hx hb dX4_tell_112 (by decide) (fun c112 => ?_) (fun c112 => absurd c112 (by decide))
            refine lv_iconst (v := 0) hx hb dX4_tell_126 (by decide) ?_
            refine lv_iconst (v := 0) hx hb dX4_tell_127 (by decide) ?_
            refine wn_wV (rest := []) hx hb hml hown hG hN hP hS (cX4_throwing_w hAd hn hV hR true false false false) (cwV 4 hG (gV g_557 g_559 gp_X4_throwing g_5 g_560) rfl rfl rfl (by decide +kernel) ⟨Nat.le_of_ble_eq_true rfl, Nat.le_of_ble_eq_true rfl⟩) (by omega) hM0 rfl rfl hl.1 rfl (Nat.le_of_ble_eq_true rfl) dX4_tell_128 ⟨Nat.le_of_ble_eq_true rfl, Nat.le_of_ble_eq_true rfl⟩ (fun F25 H locs hFF hP hS => ?_)
            obtain ⟨hR, fF⟩ := hFF
            have h45 : ∀ j, j < 30 ∨ 45 ≤ j → F25 j = E j := fun j hj => (fF j (by omega)).trans (h45 j hj)
            obtain ⟨hM0, hM1, hM2, hM3, hM4, hM5, hM6, hM7, hM8, hM9, hM10, hM11, hM12, hM13, hM14⟩ := id hR
            refine lv_if_eq (tgt := 136) hx hb dX4_tell_131 (by decide) (fun c131 => absurd c131 (by decide)) (fun c131 => ?_)
            refine lv_iconst (v := 0) hx hb dX4_tell_134 (by decide) ?_
            have hk : k_tell S dd tt x v = 1 := by unfold k_tell; first | (rw [n4]; rfl) | (rw [n11, Bool.and_false]; rfl)
            exact W.iret (v := 0) hx hb hr (fun u9 ht _ => ⟨(by rw [hk]; rfl), F25, ⟨by rw [hk]; exact hR, h45⟩, by rw [ht]; exact hP, hS.F ht⟩) hS.2.2 dX4_tell_135
          · have hok : tOK x = false := by unfold tOK; rw [decide_eq_false (show ¬ tN x < 2 ^ 30 from fun h9 => c71 ((lg_cmp_eq _ _).mpr ((td_hi x 30 (by decide)).mpr h9)))]; simp
            refine lv_iconst (v := 1) hx hb dX4_tell_74 (by decide) ?_
            refine lv_goto (tgt := 79) hx hb dX4_tell_75 (by decide) ?_
            refine lv_istore (lv' := [(10, .int 1), (9, .int (nI (b / 2 ^ 23 % 128))), (8, .int (nI (b / 2 ^ 20 % 8))), (7, .int (nI (b % 2 ^ 20))), (6, .int 1), (0, .ref (adr 30)), (1, .int dd), (2, .int tt), (3, .long x), (5, .int v)]) hx hb dX4_tell_79 hl (by decide) rfl (fun ls hl => ?_)
            refine lv_iload hx hb dX4_tell_81 (lv_at hl 4 rfl) ?_
            refine lv_if_eq (tgt := 90) hx hb dX4_tell_83 (by decide) (fun c83 => absurd c83 (by decide)) (fun c83 => ?_)
            refine lv_iconst (v := 0) hx hb dX4_tell_86 (by decide) ?_
            refine lv_goto (tgt := 103) hx hb dX4_tell_87 (by decide) ?_
            refine lv_istore (lv' := [(11, .int 0), (10, .int 1), (9, .int (nI (b / 2 ^ 23 % 128))), (8, .int (nI (b / 2 ^ 20 % 8))), (7, .int (nI (b % 2 ^ 20))), (6, .int 1), (0, .ref (adr 30)), (1, .int dd), (2, .int tt), (3, .long x), (5, .int v)]) hx hb dX4_tell_103 hl (by decide) rfl (fun ls hl => ?_)
            refine lv_aload_n hx hb dX4_tell_105 rfl (lv_at hl 6 rfl) ?_
            refine lv_iload hx hb dX4_tell_106 (lv_at hl 5 rfl) ?_
            refine lv_iload hx hb dX4_tell_108 (lv_at hl 1 rfl) ?_
            refine lv_iload hx hb dX4_tell_110 (lv_at hl 5 rfl) ?_
            refine lv_if_ne (tgt := 126) hx hb dX4_tell_112 (by decide) (fun c112 => ?_) (fun c112 => absurd c112 (by decide))
            refine lv_iconst (v := 0) hx hb dX4_tell_126 (by decide) ?_
            refine lv_iconst (v := 0) hx hb dX4_tell_127 (by decide) ?_
            refine wn_wV (rest := []) hx hb hml hown hG hN hP hS (cX4_throwing_w hAd hn hV hR true true false false) (cwV 4 hG (gV g_557 g_559 gp_X4_throwing g_5 g_560) rfl rfl rfl (by decide +kernel) ⟨Nat.le_of_ble_eq_true rfl, Nat.le_of_ble_eq_true rfl⟩) (by omega) hM0 rfl rfl hl.1 rfl (Nat.le_of_ble_eq_true rfl) dX4_tell_128 ⟨Nat.le_of_ble_eq_true rfl, Nat.le_of_ble_eq_true rfl⟩ (fun F26 H locs hFF hP hS => ?_)
            obtain ⟨hR, fF⟩ := hFF
            have h45 : ∀ j, j < 30 ∨ 45 ≤ j → F26 j = E j := fun j hj => (fF j (by omega)).trans (h45 j hj)
            obtain ⟨hM0, hM1, hM2, hM3, hM4, hM5, hM6, hM7, hM8, hM9, hM10, hM11, hM12, hM13, hM14⟩ := id hR
            refine lv_if_eq (tgt := 136) hx hb dX4_tell_131 (by decide) (fun c131 => absurd c131 (by decide)) (fun c131 => ?_)
            refine lv_iconst (v := 0) hx hb dX4_tell_134 (by decide) ?_
            have hk : k_tell S dd tt x v = 1 := by unfold k_tell; first | (rw [n4]; rfl) | (rw [n11, Bool.and_false]; rfl)
            exact W.iret (v := 0) hx hb hr (fun u9 ht _ => ⟨(by rw [hk]; rfl), F26, ⟨by rw [hk]; exact hR, h45⟩, by rw [ht]; exact hP, hS.F ht⟩) hS.2.2 dX4_tell_135
