set_option maxHeartbeats 4000000 in
set_option maxRecDepth 100000 in
theorem cX4_mark_w {l : Launch} {D : va_G} {cA : Nat → ClassId} {adr : Nat → Nat} {n : Nat} {E : Nat → va_E} {lo : Nat} (hAd : wd_ad lo n adr) {S : CS} {th : Int32} (hn : 45 ≤ n) (hV : Inv S) (hR : RepM cA adr S th E) (tt a b : Int32) : Met l yX4_mark (.code yX4_mark cX4_mark 8 (some .int) :: lw_G) ({ frames := 2, cells := 0, slots := 0, locals := 43 } : Room) (va_Pc [.ref (adr 30), .int tt, .int a, .int b] (wdU D (kty cA) adr n E)) (wq D lo adr n (some (.int (if k_mark S tt a b = 0 then r_mark S tt else 0))) (fun E2 => RepM cA adr (if k_mark S tt a b = 0 then s_mark S tt a b else S) (nI (k_mark S tt a b)) E2 ∧ ∀ j, j < 30 ∨ 45 ≤ j → E2 j = E j)) 0 0 (fun q => lo ≤ q) := by
  refine Met.ofW (cc := cX4_mark) (maxL := 8) (ret := (some .int)) (by decide) rfl ?_
  intro p e s m args below meth c s₁ B hml hv
  obtain ⟨rfl, hP, hN⟩ := hv
  have hx := B.exec
  have hb := B.bytes
  have hr := B.returns
  have hG : ∀ w ∈ lw_G, w.before _ s = true := fun w h => atoms_spec (ws := _ :: lw_G) B.pre w (List.mem_cons_of_mem _ h)
  have hown : s.vm.findClass RX4 = some m.cls := findClass_of_methodNamed B.named
  have hlocks := B.notSynchronized
  have hK := hN.1
  have hS : va_S (fun q => lo ≤ q) s.heap s.heap [] := va_S.rf
  have hF : ∀ j, j ≠ 30 → E j = E j := fun j _ => rfl
  have hl := lv_entry ([.ref (adr 30), .int tt, .int a, .int b]) (n := 8) (Nat.le_of_ble_eq_true rfl)
  rw [lg_entry_eq]
  generalize (lg_sl ([.ref (adr 30), .int tt, .int a, .int b]) ++ List.replicate (8 - (lg_sl ([.ref (adr 30), .int tt, .int a, .int b])).length) Slot.unset).toArray = ls at hl ⊢
  have hl : lv_has ls 8 [(0, .ref (adr 30)), (1, .int tt), (2, .int a), (3, .int b)] := hl
  obtain ⟨hM0, hM1, hM2, hM3, hM4, hM5, hM6, hM7, hM8, hM9, hM10, hM11, hM12, hM13, hM14⟩ := id hR
  obtain ⟨hct, hnm, htd, hmk, hlf, hnt, hnu, hcn, hmz, hmm, hib, hmr, hrise⟩ := id hV
  have h45 : ∀ j, j < 30 ∨ 45 ≤ j → E j = E j := fun _ _ => rfl
  refine lv_iload_n hx hb dX4_mark_0 rfl (lv_at hl 1 rfl) ?_
  refine wn_rS (rest := []) hx hb hml hown hG (cX4_isTeller_r _) (cwS 1 hG (gS g_550 g_551 g_5 g_552) rfl rfl rfl (by decide +kernel) ⟨Nat.le_of_ble_eq_true rfl, Nat.le_of_ble_eq_true rfl⟩) rfl hl.1 rfl (Nat.le_of_ble_eq_true rfl) dX4_mark_1 ⟨Nat.le_of_ble_eq_true rfl, Nat.le_of_ble_eq_true rfl⟩ ?_
  refine lv_if_ne (tgt := 11) hx hb dX4_mark_4 (by decide) (fun c4 => ?_) (fun c4 => ?_)
  · have n4 : (inN tt 5) = true := bI_1.mp c4
    refine lv_iconst (v := 0) hx hb dX4_mark_11 (by decide) ?_
    obtain ⟨t, ht, rfl⟩ := inN_of n4 (by decide)
    have bmk := hmk t ht
    refine lv_istore (lv' := [(4, .int 0), (0, .ref (adr 30)), (1, .int (nI t)), (2, .int a), (3, .int b)]) hx hb dX4_mark_12 hl (by decide) rfl (fun ls hl => ?_)
    refine lv_iload hx hb dX4_mark_14 (lv_at hl 0 rfl) ?_
    refine lv_if_eq (tgt := 23) hx hb dX4_mark_16 (by decide) (fun c16 => ?_) (fun c16 => absurd (by decide) c16)
    have J85 : ∀ (x7 : Bool), (!c_fol S t a b) = x7 → ∀ ls : Array Slot, lv_has ls 8 [(7, .int (bI x7)), (0, .ref (adr 30)), (1, .int (nI t)), (2, .int a), (3, .int b), (4, .int 0), (5, .int (nI (c_mk S t)))] → W p l e (headSpec (.code yX4_mark cX4_mark 8 (some .int) :: lw_G) ({ frames := 2, cells := 0, slots := 0, locals := 43 } : Room)).room s m [.ref (adr 30), .int (nI t), .int a, .int b].toArray below meth c s.heap [] 0 0 (MQ below (wq D lo adr n (some (.int (if k_mark S (nI t) a b = 0 then r_mark S (nI t) else 0))) (fun E2 => RepM cA adr (if k_mark S (nI t) a b = 0 then s_mark S (nI t) a b else S) (nI (k_mark S (nI t) a b)) E2 ∧ ∀ j, j < 30 ∨ 45 ≤ j → E2 j = E j)) [.ref (adr 30), .int (nI t), .int a, .int b].toArray s 0 0 (fun q => lo ≤ q)) (F0 m 85 ls []) := by
      intro x7 h7 ls hl
      refine lv_aload_n hx hb dX4_mark_85 rfl (lv_at hl 1 rfl) ?_
      refine lv_iload hx hb dX4_mark_86 (lv_at hl 5 rfl) ?_
      refine lv_iload hx hb dX4_mark_88 (lv_at hl 6 rfl) ?_
      refine lv_bipush (v := 6) hx hb dX4_mark_90 (by decide) ?_
      refine lv_icmp_ne (tgt := 99) hx hb dX4_mark_92 (by decide) (fun c92 => ?_) (fun c92 => ?_)
      · have n92 : ¬ (c_mk S t) = 6 := fun h7 => c92 ((nI_eq (a := (c_mk S t)) (b := 6) (by omega) (by omega)).mpr h7)
        refine lv_iconst (v := 0) hx hb dX4_mark_99 (by decide) ?_
        refine lv_iload_n hx hb dX4_mark_100 rfl (lv_at hl 3 rfl) ?_
        refine lv_i2l (v := a.toInt64) hx hb dX4_mark_101 rfl ?_
        refine lv_iconst (v := 0) hx hb dX4_mark_102 (by decide) ?_
        refine lv_ldc hx hb hown (hG _ g_556) dX4_mark_103 ?_
        refine wn_rS (rest := [.int 0, .int 0, .ref (adr 30)]) hx hb hml hown hG (cX4_in_r _ _ _) (cwS 3 hG (gS g_553 g_554 g_5 g_555) rfl rfl rfl (by decide +kernel) ⟨Nat.le_of_ble_eq_true rfl, Nat.le_of_ble_eq_true rfl⟩) rfl hl.1 rfl (Nat.le_of_ble_eq_true rfl) dX4_mark_105 ⟨Nat.le_of_ble_eq_true rfl, Nat.le_of_ble_eq_true rfl⟩ ?_
        refine lv_topi (fun y9 e9 => ?_)
        have e9 : y9 = bI (inN a 1000001) := e9.trans (congrArg bI (inr_N a 1000000 (by decide)))
        subst e9
        refine lv_if_eq (tgt := 127) hx hb dX4_mark_108 (by decide) (fun c108 => ?_) (fun c108 => ?_)
        · have n108 : (inN a 1000001) = false := bI_0.mp c108
          refine lv_iconst (v := 1) hx hb dX4_mark_127 (by decide) ?_
          refine lv_goto (tgt := 132) hx hb dX4_mark_128 (by decide) ?_
          refine lv_iconst (v := 0) hx hb dX4_mark_132 (by decide) ?_
          refine wn_wV (rest := []) hx hb hml hown hG hN hP hS (cX4_throwing_w hAd hn hV hR false false true false) (cwV 4 hG (gV g_557 g_559 gp_X4_throwing g_5 g_560) rfl rfl rfl (by decide +kernel) ⟨Nat.le_of_ble_eq_true rfl, Nat.le_of_ble_eq_true rfl⟩) (by omega) hM0 rfl rfl hl.1 rfl (Nat.le_of_ble_eq_true rfl) dX4_mark_133 ⟨Nat.le_of_ble_eq_true rfl, Nat.le_of_ble_eq_true rfl⟩ (fun F1 H locs hFF hP hS => ?_)
          obtain ⟨hR, fF⟩ := hFF
          have h45 : ∀ j, j < 30 ∨ 45 ≤ j → F1 j = E j := fun j hj => (fF j (by omega)).trans (h45 j hj)
          obtain ⟨hM0, hM1, hM2, hM3, hM4, hM5, hM6, hM7, hM8, hM9, hM10, hM11, hM12, hM13, hM14⟩ := id hR
          refine lv_if_eq (tgt := 141) hx hb dX4_mark_136 (by decide) (fun c136 => absurd c136 (by decide)) (fun c136 => ?_)
          refine lv_iconst (v := 0) hx hb dX4_mark_139 (by decide) ?_
          have hk : k_mark S (nI t) a b = 3 := by unfold k_mark; rw [n4, nI_clamp (by omega)]; simp only [if_true]; rw [if_neg (show ¬ 6 ≤ c_mk S t by omega)]; refine if_neg (fun h9 => ?_); simp only [Bool.and_eq_true] at h9; first | (rw [h9.1.1] at n108; exact absurd n108 (by decide)) | (rw [h9.1.2] at n119; exact absurd n119 (by decide)) | (rw [h9.2] at h7; rw [← h7] at n124; exact absurd n124 (by decide))
          exact W.iret (v := 0) hx hb hr (fun u9 ht _ => ⟨(by rw [hk]; rfl), F1, ⟨by rw [hk]; exact hR, h45⟩, by rw [ht]; exact hP, hS.F ht⟩) hS.2.2 dX4_mark_140
        · have n108 : (inN a 1000001) = true := bI_1.mp c108
          refine lv_iload_n hx hb dX4_mark_111 rfl (lv_at hl 4 rfl) ?_
          refine lv_i2l (v := b.toInt64) hx hb dX4_mark_112 rfl ?_
          refine lv_iconst (v := 0) hx hb dX4_mark_113 (by decide) ?_
          refine lv_ldc hx hb hown (hG _ g_556) dX4_mark_114 ?_
          refine wn_rS (rest := [.int 0, .int 0, .ref (adr 30)]) hx hb hml hown hG (cX4_in_r _ _ _) (cwS 3 hG (gS g_553 g_554 g_5 g_555) rfl rfl rfl (by decide +kernel) ⟨Nat.le_of_ble_eq_true rfl, Nat.le_of_ble_eq_true rfl⟩) rfl hl.1 rfl (Nat.le_of_ble_eq_true rfl) dX4_mark_116 ⟨Nat.le_of_ble_eq_true rfl, Nat.le_of_ble_eq_true rfl⟩ ?_
          refine lv_topi (fun y9 e9 => ?_)
          have e9 : y9 = bI (inN b 1000001) := e9.trans (congrArg bI (inr_N b 1000000 (by decide)))
          subst e9
          refine lv_if_eq (tgt := 127) hx hb dX4_mark_119 (by decide) (fun c119 => ?_) (fun c119 => ?_)
          · have n119 : (inN b 1000001) = false := bI_0.mp c119
            refine lv_iconst (v := 1) hx hb dX4_mark_127 (by decide) ?_
            refine lv_goto (tgt := 132) hx hb dX4_mark_128 (by decide) ?_
            refine lv_iconst (v := 0) hx hb dX4_mark_132 (by decide) ?_
            refine wn_wV (rest := []) hx hb hml hown hG hN hP hS (cX4_throwing_w hAd hn hV hR false false true false) (cwV 4 hG (gV g_557 g_559 gp_X4_throwing g_5 g_560) rfl rfl rfl (by decide +kernel) ⟨Nat.le_of_ble_eq_true rfl, Nat.le_of_ble_eq_true rfl⟩) (by omega) hM0 rfl rfl hl.1 rfl (Nat.le_of_ble_eq_true rfl) dX4_mark_133 ⟨Nat.le_of_ble_eq_true rfl, Nat.le_of_ble_eq_true rfl⟩ (fun F2 H locs hFF hP hS => ?_)
            obtain ⟨hR, fF⟩ := hFF
            have h45 : ∀ j, j < 30 ∨ 45 ≤ j → F2 j = E j := fun j hj => (fF j (by omega)).trans (h45 j hj)
            obtain ⟨hM0, hM1, hM2, hM3, hM4, hM5, hM6, hM7, hM8, hM9, hM10, hM11, hM12, hM13, hM14⟩ := id hR
            refine lv_if_eq (tgt := 141) hx hb dX4_mark_136 (by decide) (fun c136 => absurd c136 (by decide)) (fun c136 => ?_)
            refine lv_iconst (v := 0) hx hb dX4_mark_139 (by decide) ?_
            have hk : k_mark S (nI t) a b = 3 := by unfold k_mark; rw [n4, nI_clamp (by omega)]; simp only [if_true]; rw [if_neg (show ¬ 6 ≤ c_mk S t by omega)]; refine if_neg (fun h9 => ?_); simp only [Bool.and_eq_true] at h9; first | (rw [h9.1.1] at n108; exact absurd n108 (by decide)) | (rw [h9.1.2] at n119; exact absurd n119 (by decide)) | (rw [h9.2] at h7; rw [← h7] at n124; exact absurd n124 (by decide))
            exact W.iret (v := 0) hx hb hr (fun u9 ht _ => ⟨(by rw [hk]; rfl), F2, ⟨by rw [hk]; exact hR, h45⟩, by rw [ht]; exact hP, hS.F ht⟩) hS.2.2 dX4_mark_140
          · have n119 : (inN b 1000001) = true := bI_1.mp c119
            refine lv_iload hx hb dX4_mark_122 (lv_at hl 0 rfl) ?_
            refine lv_if_eq (tgt := 131) hx hb dX4_mark_124 (by decide) (fun c124 => ?_) (fun c124 => ?_)
            · have n124 : x7 = false := bI_0.mp c124
              refine lv_iconst (v := 0) hx hb dX4_mark_131 (by decide) ?_
              refine lv_iconst (v := 0) hx hb dX4_mark_132 (by decide) ?_
              refine wn_wV (rest := []) hx hb hml hown hG hN hP hS (cX4_throwing_w hAd hn hV hR false false false false) (cwV 4 hG (gV g_557 g_559 gp_X4_throwing g_5 g_560) rfl rfl rfl (by decide +kernel) ⟨Nat.le_of_ble_eq_true rfl, Nat.le_of_ble_eq_true rfl⟩) (by omega) hM0 rfl rfl hl.1 rfl (Nat.le_of_ble_eq_true rfl) dX4_mark_133 ⟨Nat.le_of_ble_eq_true rfl, Nat.le_of_ble_eq_true rfl⟩ (fun F3 H locs hFF hP hS => ?_)
              obtain ⟨hR, fF⟩ := hFF
              have h45 : ∀ j, j < 30 ∨ 45 ≤ j → F3 j = E j := fun j hj => (fF j (by omega)).trans (h45 j hj)
              obtain ⟨hM0, hM1, hM2, hM3, hM4, hM5, hM6, hM7, hM8, hM9, hM10, hM11, hM12, hM13, hM14⟩ := id hR
              have hR : RepM cA adr S 0 F3 := hR
              refine lv_if_eq (tgt := 141) hx hb dX4_mark_136 (by decide) (fun c136 => ?_) (fun c136 => absurd (by decide) c136)
              refine lv_aload_n hx hb dX4_mark_141 rfl (lv_at hl 1 rfl) ?_
              refine va_get (D := D) (ci := 4) (v := .ref (adr 33)) (C := RX4) (T := TX4) (N := 16) hx hb hG inG_X4 hown hK hP 30 (wl_at (by omega) hM0) rfl 3 (by decide) (hG _ g_496) (fun _ h9 => h9) rfl dX4_mark_142 ?_
              refine lv_bipush (v := 6) hx hb dX4_mark_145 (by decide) ?_
              refine lv_iload_n hx hb dX4_mark_147 rfl (lv_at hl 2 rfl) ?_
              refine lv_imul hx hb dX4_mark_148 ?_
              refine lv_topi (fun y9 e9 => ?_)
              have e9 : y9 = nI (6 * t) := e9.trans (pk_mul 6 t)
              subst e9
              refine lv_iload hx hb dX4_mark_149 (lv_at hl 6 rfl) ?_
              refine lv_iadd hx hb dX4_mark_151 ?_
              refine lv_topi (fun y9 e9 => ?_)
              have e9 : y9 = nI ((6 * t) + (c_mk S t)) := e9.trans (nI_add (6 * t) (c_mk S t))
              subst e9
              refine lv_iload_n hx hb dX4_mark_152 rfl (lv_at hl 3 rfl) ?_
              refine wn_iast (j := ((6 * t) + (c_mk S t))) hx hb hK hAd hP hS (by omega) hM3 (by omega) (by decide) dX4_mark_153 (fun H locs hP hS => ?_)
              rw [fl_upd (c_ow S) _ (by omega)] at hP
              obtain ⟨E4x, hE4x⟩ : ∃ z9, z9 = va_up F3 33 (.inl (cA 0, 30, .inl (fun y => (va_up (c_ow S) t (upd (c_ow S t) (c_mk S t) a)) (y / 6) (y % 6)))) := ⟨_, rfl⟩
              have hP : va_P D kcl (wl adr n E4x) H := by rw [hE4x]; exact hP
              have hF9 : ∀ j, j ≠ 33 → E4x j = F3 j := fun j z9 => by rw [hE4x, va_up_ne _ _ z9]
              have h45 : ∀ j, j < 30 ∨ 45 ≤ j → E4x j = E j := fun j hj => (hF9 j (by omega)).trans (h45 j hj)
              have hR := repm_ow hR (E2 := E4x) (f := va_up (c_ow S) t (upd (c_ow S t) (c_mk S t) a)) (by rw [hE4x, va_up_self]) hF9
              obtain ⟨S4, hS4⟩ : ∃ z9, z9 = w_ow S (va_up (c_ow S) t (upd (c_ow S t) (c_mk S t) a)) := ⟨_, rfl⟩
              rw [← hS4] at hR
              have ectS4 : c_ct S4 = c_ct S := by rw [hS4]; rfl
              have emoS4 : c_mo S4 = c_mo S := by rw [hS4]; rfl
              have emtS4 : c_mt S4 = c_mt S := by rw [hS4]; rfl
              have emkS4 : c_mk S4 = c_mk S := by rw [hS4]; rfl
              obtain ⟨hM0, hM1, hM2, hM3, hM4, hM5, hM6, hM7, hM8, hM9, hM10, hM11, hM12, hM13, hM14⟩ := id hR
              refine lv_aload_n hx hb dX4_mark_154 rfl (lv_at hl 1 rfl) ?_
              refine va_get (D := D) (ci := 4) (v := .ref (adr 34)) (C := RX4) (T := TX4) (N := 16) hx hb hG inG_X4 hown hK hP 30 (wl_at (by omega) hM0) rfl 4 (by decide) (hG _ g_497) (fun _ h9 => h9) rfl dX4_mark_155 ?_
              refine lv_bipush (v := 6) hx hb dX4_mark_158 (by decide) ?_
              refine lv_iload_n hx hb dX4_mark_160 rfl (lv_at hl 2 rfl) ?_
              refine lv_imul hx hb dX4_mark_161 ?_
              refine lv_topi (fun y9 e9 => ?_)
              have e9 : y9 = nI (6 * t) := e9.trans (pk_mul 6 t)
              subst e9
              refine lv_iload hx hb dX4_mark_162 (lv_at hl 6 rfl) ?_
              refine lv_iadd hx hb dX4_mark_164 ?_
              refine lv_topi (fun y9 e9 => ?_)
              have e9 : y9 = nI ((6 * t) + (c_mk S t)) := e9.trans (nI_add (6 * t) (c_mk S t))
              subst e9
              refine lv_iload_n hx hb dX4_mark_165 rfl (lv_at hl 4 rfl) ?_
              refine wn_iast (j := ((6 * t) + (c_mk S t))) hx hb hK hAd hP hS (by omega) hM4 (by omega) (by decide) dX4_mark_166 (fun H locs hP hS => ?_)
              rw [fl_upd (c_re S4) _ (by omega)] at hP
              obtain ⟨E5x, hE5x⟩ : ∃ z9, z9 = va_up E4x 34 (.inl (cA 0, 30, .inl (fun y => (va_up (c_re S4) t (upd (c_re S4 t) (c_mk S t) b)) (y / 6) (y % 6)))) := ⟨_, rfl⟩
              have hP : va_P D kcl (wl adr n E5x) H := by rw [hE5x]; exact hP
              have hF9 : ∀ j, j ≠ 34 → E5x j = E4x j := fun j z9 => by rw [hE5x, va_up_ne _ _ z9]
              have h45 : ∀ j, j < 30 ∨ 45 ≤ j → E5x j = E j := fun j hj => (hF9 j (by omega)).trans (h45 j hj)
              have hR := repm_re hR (E2 := E5x) (f := va_up (c_re S4) t (upd (c_re S4 t) (c_mk S t) b)) (by rw [hE5x, va_up_self]) hF9
              obtain ⟨S5, hS5⟩ : ∃ z9, z9 = w_re S4 (va_up (c_re S4) t (upd (c_re S4 t) (c_mk S t) b)) := ⟨_, rfl⟩
              rw [← hS5] at hR
              have ectS5 : c_ct S5 = c_ct S4 := by rw [hS5]; rfl
              have emoS5 : c_mo S5 = c_mo S4 := by rw [hS5]; rfl
              have emtS5 : c_mt S5 = c_mt S4 := by rw [hS5]; rfl
              have emkS5 : c_mk S5 = c_mk S4 := by rw [hS5]; rfl
              obtain ⟨hM0, hM1, hM2, hM3, hM4, hM5, hM6, hM7, hM8, hM9, hM10, hM11, hM12, hM13, hM14⟩ := id hR
              refine lv_aload_n hx hb dX4_mark_167 rfl (lv_at hl 1 rfl) ?_
              refine va_get (D := D) (ci := 4) (v := .ref (adr 32)) (C := RX4) (T := TX4) (N := 16) hx hb hG inG_X4 hown hK hP 30 (wl_at (by omega) hM0) rfl 2 (by decide) (hG _ g_495) (fun _ h9 => h9) rfl dX4_mark_168 ?_
              refine lv_iload_n hx hb dX4_mark_171 rfl (lv_at hl 2 rfl) ?_
              refine lv_dup2_11 hx hb dX4_mark_172 rfl rfl ?_
              refine wn_iald (j := t) hx hb hK hP (by omega) hM2 (by omega) (by decide) dX4_mark_173 ?_
              refine lv_iconst (v := 1) hx hb dX4_mark_174 (by decide) ?_
              refine lv_iadd hx hb dX4_mark_175 ?_
              refine lv_topi (fun y9 e9 => ?_)
              have e9 : y9 = nI ((c_mk S5 t) + 1) := e9.trans (nI_add (c_mk S5 t) 1)
              subst e9
              refine wn_iast (j := t) hx hb hK hAd hP hS (by omega) hM2 (by omega) (by decide) dX4_mark_176 (fun H locs hP hS => ?_)
              rw [upd_nI] at hP
              obtain ⟨E6x, hE6x⟩ : ∃ z9, z9 = va_up E5x 32 (.inl (cA 0, 5, .inl (fun j => nI ((upN (c_mk S5) t ((c_mk S5 t) + 1)) j)))) := ⟨_, rfl⟩
              have hP : va_P D kcl (wl adr n E6x) H := by rw [hE6x]; exact hP
              have hF9 : ∀ j, j ≠ 32 → E6x j = E5x j := fun j z9 => by rw [hE6x, va_up_ne _ _ z9]
              have h45 : ∀ j, j < 30 ∨ 45 ≤ j → E6x j = E j := fun j hj => (hF9 j (by omega)).trans (h45 j hj)
              have hR := repm_mk hR (E2 := E6x) (f := upN (c_mk S5) t ((c_mk S5 t) + 1)) (by rw [hE6x, va_up_self]) hF9
              obtain ⟨S6, hS6⟩ : ∃ z9, z9 = w_mk S5 (upN (c_mk S5) t ((c_mk S5 t) + 1)) := ⟨_, rfl⟩
              rw [← hS6] at hR
              have ectS6 : c_ct S6 = c_ct S5 := by rw [hS6]; rfl
              have emoS6 : c_mo S6 = c_mo S5 := by rw [hS6]; rfl
              have emtS6 : c_mt S6 = c_mt S5 := by rw [hS6]; rfl
              obtain ⟨hM0, hM1, hM2, hM3, hM4, hM5, hM6, hM7, hM8, hM9, hM10, hM11, hM12, hM13, hM14⟩ := id hR
              refine lv_aload_n hx hb dX4_mark_177 rfl (lv_at hl 1 rfl) ?_
              refine va_get (D := D) (ci := 4) (v := .ref (adr 32)) (C := RX4) (T := TX4) (N := 16) hx hb hG inG_X4 hown hK hP 30 (wl_at (by omega) hM0) rfl 2 (by decide) (hG _ g_495) (fun _ h9 => h9) rfl dX4_mark_178 ?_
              refine lv_iload_n hx hb dX4_mark_181 rfl (lv_at hl 2 rfl) ?_
              refine wn_iald (j := t) hx hb hK hP (by omega) hM2 (by omega) (by decide) dX4_mark_182 ?_
              have hk : k_mark S (nI t) a b = 0 := by unfold k_mark; rw [n4, nI_clamp (by omega)]; simp only [if_true]; rw [if_neg (show ¬ 6 ≤ c_mk S t by omega)]; rw [n108, n119, show c_fol S t a b = true from by rw [n124] at h7; simpa using h7]; rfl
              exact W.iret (v := nI (c_mk S6 t)) hx hb hr (fun u9 ht _ => ⟨(by rw [hk, if_pos rfl]; exact congrArg (fun z => Outcome.returned (some (Value.int z))) (by unfold r_mark; rw [nI_clamp (by omega), hS6, hS5, hS4]; exact congrArg nI (upN_self _ _ _))), E6x, ⟨by rw [hk]; exact (by unfold s_mark; rw [nI_clamp (by omega)]; rw [hS6, hS5, hS4] at hR; exact repm_ext hR rfl rfl rfl rfl rfl rfl rfl rfl rfl (upN_id _ _) rfl rfl), h45⟩, by rw [ht]; exact hP, hS.F ht⟩) hS.2.2 dX4_mark_183
            · have n124 : x7 = true := bI_1.mp c124
              refine lv_iconst (v := 1) hx hb dX4_mark_127 (by decide) ?_
              refine lv_goto (tgt := 132) hx hb dX4_mark_128 (by decide) ?_
              refine lv_iconst (v := 0) hx hb dX4_mark_132 (by decide) ?_
              refine wn_wV (rest := []) hx hb hml hown hG hN hP hS (cX4_throwing_w hAd hn hV hR false false true false) (cwV 4 hG (gV g_557 g_559 gp_X4_throwing g_5 g_560) rfl rfl rfl (by decide +kernel) ⟨Nat.le_of_ble_eq_true rfl, Nat.le_of_ble_eq_true rfl⟩) (by omega) hM0 rfl rfl hl.1 rfl (Nat.le_of_ble_eq_true rfl) dX4_mark_133 ⟨Nat.le_of_ble_eq_true rfl, Nat.le_of_ble_eq_true rfl⟩ (fun F7 H locs hFF hP hS => ?_)
              obtain ⟨hR, fF⟩ := hFF
              have h45 : ∀ j, j < 30 ∨ 45 ≤ j → F7 j = E j := fun j hj => (fF j (by omega)).trans (h45 j hj)
              obtain ⟨hM0, hM1, hM2, hM3, hM4, hM5, hM6, hM7, hM8, hM9, hM10, hM11, hM12, hM13, hM14⟩ := id hR
              refine lv_if_eq (tgt := 141) hx hb dX4_mark_136 (by decide) (fun c136 => absurd c136 (by decide)) (fun c136 => ?_)
              refine lv_iconst (v := 0) hx hb dX4_mark_139 (by decide) ?_
              have hk : k_mark S (nI t) a b = 3 := by unfold k_mark; rw [n4, nI_clamp (by omega)]; simp only [if_true]; rw [if_neg (show ¬ 6 ≤ c_mk S t by omega)]; refine if_neg (fun h9 => ?_); simp only [Bool.and_eq_true] at h9; first | (rw [h9.1.1] at n108; exact absurd n108 (by decide)) | (rw [h9.1.2] at n119; exact absurd n119 (by decide)) | (rw [h9.2] at h7; rw [← h7] at n124; exact absurd n124 (by decide))
              exact W.iret (v := 0) hx hb hr (fun u9 ht _ => ⟨(by rw [hk]; rfl), F7, ⟨by rw [hk]; exact hR, h45⟩, by rw [ht]; exact hP, hS.F ht⟩) hS.2.2 dX4_mark_140
      · have n92 : (c_mk S t) = 6 := (nI_eq (a := (c_mk S t)) (b := 6) (by omega) (by omega)).mp c92
        refine lv_iconst (v := 1) hx hb dX4_mark_95 (by decide) ?_
        refine lv_goto (tgt := 100) hx hb dX4_mark_96 (by decide) ?_
        refine lv_iload_n hx hb dX4_mark_100 rfl (lv_at hl 3 rfl) ?_
        refine lv_i2l (v := a.toInt64) hx hb dX4_mark_101 rfl ?_
        refine lv_iconst (v := 0) hx hb dX4_mark_102 (by decide) ?_
        refine lv_ldc hx hb hown (hG _ g_556) dX4_mark_103 ?_
        refine wn_rS (rest := [.int 1, .int 0, .ref (adr 30)]) hx hb hml hown hG (cX4_in_r _ _ _) (cwS 3 hG (gS g_553 g_554 g_5 g_555) rfl rfl rfl (by decide +kernel) ⟨Nat.le_of_ble_eq_true rfl, Nat.le_of_ble_eq_true rfl⟩) rfl hl.1 rfl (Nat.le_of_ble_eq_true rfl) dX4_mark_105 ⟨Nat.le_of_ble_eq_true rfl, Nat.le_of_ble_eq_true rfl⟩ ?_
        refine lv_topi (fun y9 e9 => ?_)
        have e9 : y9 = bI (inN a 1000001) := e9.trans (congrArg bI (inr_N a 1000000 (by decide)))
        subst e9
        refine lv_if_eq (tgt := 127) hx hb dX4_mark_108 (by decide) (fun c108 => ?_) (fun c108 => ?_)
        · have n108 : (inN a 1000001) = false := bI_0.mp c108
          refine lv_iconst (v := 1) hx hb dX4_mark_127 (by decide) ?_
          refine lv_goto (tgt := 132) hx hb dX4_mark_128 (by decide) ?_
          refine lv_iconst (v := 0) hx hb dX4_mark_132 (by decide) ?_
          refine wn_wV (rest := []) hx hb hml hown hG hN hP hS (cX4_throwing_w hAd hn hV hR false true true false) (cwV 4 hG (gV g_557 g_559 gp_X4_throwing g_5 g_560) rfl rfl rfl (by decide +kernel) ⟨Nat.le_of_ble_eq_true rfl, Nat.le_of_ble_eq_true rfl⟩) (by omega) hM0 rfl rfl hl.1 rfl (Nat.le_of_ble_eq_true rfl) dX4_mark_133 ⟨Nat.le_of_ble_eq_true rfl, Nat.le_of_ble_eq_true rfl⟩ (fun F8 H locs hFF hP hS => ?_)
          obtain ⟨hR, fF⟩ := hFF
          have h45 : ∀ j, j < 30 ∨ 45 ≤ j → F8 j = E j := fun j hj => (fF j (by omega)).trans (h45 j hj)
          obtain ⟨hM0, hM1, hM2, hM3, hM4, hM5, hM6, hM7, hM8, hM9, hM10, hM11, hM12, hM13, hM14⟩ := id hR
          refine lv_if_eq (tgt := 141) hx hb dX4_mark_136 (by decide) (fun c136 => absurd c136 (by decide)) (fun c136 => ?_)
          refine lv_iconst (v := 0) hx hb dX4_mark_139 (by decide) ?_
          have hk : k_mark S (nI t) a b = 2 := by unfold k_mark; rw [n4, nI_clamp (by omega)]; simp only [if_true]; rw [if_pos (by omega)]
          exact W.iret (v := 0) hx hb hr (fun u9 ht _ => ⟨(by rw [hk]; rfl), F8, ⟨by rw [hk]; exact hR, h45⟩, by rw [ht]; exact hP, hS.F ht⟩) hS.2.2 dX4_mark_140
        · have n108 : (inN a 1000001) = true := bI_1.mp c108
          refine lv_iload_n hx hb dX4_mark_111 rfl (lv_at hl 4 rfl) ?_
          refine lv_i2l (v := b.toInt64) hx hb dX4_mark_112 rfl ?_
          refine lv_iconst (v := 0) hx hb dX4_mark_113 (by decide) ?_
          refine lv_ldc hx hb hown (hG _ g_556) dX4_mark_114 ?_
          refine wn_rS (rest := [.int 1, .int 0, .ref (adr 30)]) hx hb hml hown hG (cX4_in_r _ _ _) (cwS 3 hG (gS g_553 g_554 g_5 g_555) rfl rfl rfl (by decide +kernel) ⟨Nat.le_of_ble_eq_true rfl, Nat.le_of_ble_eq_true rfl⟩) rfl hl.1 rfl (Nat.le_of_ble_eq_true rfl) dX4_mark_116 ⟨Nat.le_of_ble_eq_true rfl, Nat.le_of_ble_eq_true rfl⟩ ?_
          refine lv_topi (fun y9 e9 => ?_)
          have e9 : y9 = bI (inN b 1000001) := e9.trans (congrArg bI (inr_N b 1000000 (by decide)))
          subst e9
          refine lv_if_eq (tgt := 127) hx hb dX4_mark_119 (by decide) (fun c119 => ?_) (fun c119 => ?_)
          · have n119 : (inN b 1000001) = false := bI_0.mp c119
            refine lv_iconst (v := 1) hx hb dX4_mark_127 (by decide) ?_
            refine lv_goto (tgt := 132) hx hb dX4_mark_128 (by decide) ?_
            refine lv_iconst (v := 0) hx hb dX4_mark_132 (by decide) ?_
            refine wn_wV (rest := []) hx hb hml hown hG hN hP hS (cX4_throwing_w hAd hn hV hR false true true false) (cwV 4 hG (gV g_557 g_559 gp_X4_throwing g_5 g_560) rfl rfl rfl (by decide +kernel) ⟨Nat.le_of_ble_eq_true rfl, Nat.le_of_ble_eq_true rfl⟩) (by omega) hM0 rfl rfl hl.1 rfl (Nat.le_of_ble_eq_true rfl) dX4_mark_133 ⟨Nat.le_of_ble_eq_true rfl, Nat.le_of_ble_eq_true rfl⟩ (fun F9 H locs hFF hP hS => ?_)
            obtain ⟨hR, fF⟩ := hFF
            have h45 : ∀ j, j < 30 ∨ 45 ≤ j → F9 j = E j := fun j hj => (fF j (by omega)).trans (h45 j hj)
            obtain ⟨hM0, hM1, hM2, hM3, hM4, hM5, hM6, hM7, hM8, hM9, hM10, hM11, hM12, hM13, hM14⟩ := id hR
            refine lv_if_eq (tgt := 141) hx hb dX4_mark_136 (by decide) (fun c136 => absurd c136 (by decide)) (fun c136 => ?_)
            refine lv_iconst (v := 0) hx hb dX4_mark_139 (by decide) ?_
            have hk : k_mark S (nI t) a b = 2 := by unfold k_mark; rw [n4, nI_clamp (by omega)]; simp only [if_true]; rw [if_pos (by omega)]
            exact W.iret (v := 0) hx hb hr (fun u9 ht _ => ⟨(by rw [hk]; rfl), F9, ⟨by rw [hk]; exact hR, h45⟩, by rw [ht]; exact hP, hS.F ht⟩) hS.2.2 dX4_mark_140
          · have n119 : (inN b 1000001) = true := bI_1.mp c119
            refine lv_iload hx hb dX4_mark_122 (lv_at hl 0 rfl) ?_
            refine lv_if_eq (tgt := 131) hx hb dX4_mark_124 (by decide) (fun c124 => ?_) (fun c124 => ?_)
            · have n124 : x7 = false := bI_0.mp c124
              refine lv_iconst (v := 0) hx hb dX4_mark_131 (by decide) ?_
              refine lv_iconst (v := 0) hx hb dX4_mark_132 (by decide) ?_
              refine wn_wV (rest := []) hx hb hml hown hG hN hP hS (cX4_throwing_w hAd hn hV hR false true false false) (cwV 4 hG (gV g_557 g_559 gp_X4_throwing g_5 g_560) rfl rfl rfl (by decide +kernel) ⟨Nat.le_of_ble_eq_true rfl, Nat.le_of_ble_eq_true rfl⟩) (by omega) hM0 rfl rfl hl.1 rfl (Nat.le_of_ble_eq_true rfl) dX4_mark_133 ⟨Nat.le_of_ble_eq_true rfl, Nat.le_of_ble_eq_true rfl⟩ (fun F10 H locs hFF hP hS => ?_)
              obtain ⟨hR, fF⟩ := hFF
              have h45 : ∀ j, j < 30 ∨ 45 ≤ j → F10 j = E j := fun j hj => (fF j (by omega)).trans (h45 j hj)
              obtain ⟨hM0, hM1, hM2, hM3, hM4, hM5, hM6, hM7, hM8, hM9, hM10, hM11, hM12, hM13, hM14⟩ := id hR
              refine lv_if_eq (tgt := 141) hx hb dX4_mark_136 (by decide) (fun c136 => absurd c136 (by decide)) (fun c136 => ?_)
              refine lv_iconst (v := 0) hx hb dX4_mark_139 (by decide) ?_
              have hk : k_mark S (nI t) a b = 2 := by unfold k_mark; rw [n4, nI_clamp (by omega)]; simp only [if_true]; rw [if_pos (by omega)]
              exact W.iret (v := 0) hx hb hr (fun u9 ht _ => ⟨(by rw [hk]; rfl), F10, ⟨by rw [hk]; exact hR, h45⟩, by rw [ht]; exact hP, hS.F ht⟩) hS.2.2 dX4_mark_140
            · have n124 : x7 = true := bI_1.mp c124
              refine lv_iconst (v := 1) hx hb dX4_mark_127 (by decide) ?_
              refine lv_goto (tgt := 132) hx hb dX4_mark_128 (by decide) ?_
              refine lv_iconst (v := 0) hx hb dX4_mark_132 (by decide) ?_
              refine wn_wV (rest := []) hx hb hml hown hG hN hP hS (cX4_throwing_w hAd hn hV hR false true true false) (cwV 4 hG (gV g_557 g_559 gp_X4_throwing g_5 g_560) rfl rfl rfl (by decide +kernel) ⟨Nat.le_of_ble_eq_true rfl, Nat.le_of_ble_eq_true rfl⟩) (by omega) hM0 rfl rfl hl.1 rfl (Nat.le_of_ble_eq_true rfl) dX4_mark_133 ⟨Nat.le_of_ble_eq_true rfl, Nat.le_of_ble_eq_true rfl⟩ (fun F11 H locs hFF hP hS => ?_)
              obtain ⟨hR, fF⟩ := hFF
              have h45 : ∀ j, j < 30 ∨ 45 ≤ j → F11 j = E j := fun j hj => (fF j (by omega)).trans (h45 j hj)
              obtain ⟨hM0, hM1, hM2, hM3, hM4, hM5, hM6, hM7, hM8, hM9, hM10, hM11, hM12, hM13, hM14⟩ := id hR
              refine lv_if_eq (tgt := 141) hx hb dX4_mark_136 (by decide) (fun c136 => absurd c136 (by decide)) (fun c136 => ?_)
              refine lv_iconst (v := 0) hx hb dX4_mark_139 (by decide) ?_
              have hk : k_mark S (nI t) a b = 2 := by unfold k_mark; rw [n4, nI_clamp (by omega)]; simp only [if_true]; rw [if_pos (by omega)]
              exact W.iret (v := 0) hx hb hr (fun u9 ht _ => ⟨(by rw [hk]; rfl), F11, ⟨by rw [hk]; exact hR, h45⟩, by rw [ht]; exact hP, hS.F ht⟩) hS.2.2 dX4_mark_140
    refine lv_aload_n hx hb dX4_mark_23 rfl (lv_at hl 1 rfl) ?_
    refine va_get (D := D) (ci := 4) (v := .ref (adr 32)) (C := RX4) (T := TX4) (N := 16) hx hb hG inG_X4 hown hK hP 30 (wl_at (by omega) hM0) rfl 2 (by decide) (hG _ g_495) (fun _ h9 => h9) rfl dX4_mark_24 ?_
    refine lv_iload_n hx hb dX4_mark_27 rfl (lv_at hl 2 rfl) ?_
    refine wn_iald (j := t) hx hb hK hP (by omega) hM2 (by omega) (by decide) dX4_mark_28 ?_
    refine lv_istore (lv' := [(5, .int (nI (c_mk S t))), (4, .int 0), (0, .ref (adr 30)), (1, .int (nI t)), (2, .int a), (3, .int b)]) hx hb dX4_mark_29 hl (by decide) rfl (fun ls hl => ?_)
    refine lv_iload hx hb dX4_mark_31 (lv_at hl 0 rfl) ?_
    refine lv_if_le (tgt := 48) hx hb dX4_mark_33 (by decide) (fun c33 => ?_) (fun c33 => ?_)
    · have n33 : (c_mk S t) ≤ 0 := (nI_leI (a := (c_mk S t)) (b := 0) (by omega) (by omega)).mp c33
      refine lv_iconst (v := 0) hx hb dX4_mark_48 (by decide) ?_
      refine lv_istore (lv' := [(6, .int 0), (5, .int (nI (c_mk S t))), (4, .int 0), (0, .ref (adr 30)), (1, .int (nI t)), (2, .int a), (3, .int b)]) hx hb dX4_mark_49 hl (by decide) rfl (fun ls hl => ?_)
      refine lv_iload hx hb dX4_mark_51 (lv_at hl 1 rfl) ?_
      refine lv_if_le (tgt := 82) hx hb dX4_mark_53 (by decide) (fun c53 => ?_) (fun c53 => absurd (c33) c53)
      refine lv_iconst (v := 0) hx hb dX4_mark_82 (by decide) ?_
      refine lv_istore (lv' := [(7, .int 0), (6, .int 0), (5, .int (nI (c_mk S t))), (4, .int 0), (0, .ref (adr 30)), (1, .int (nI t)), (2, .int a), (3, .int b)]) hx hb dX4_mark_83 hl (by decide) rfl (fun ls hl => ?_)
      exact J85 false (by unfold c_fol; first | (rw [decide_eq_true (show c_mk S t = 0 by omega)]; rfl) | (rw [decide_eq_false (show ¬ c_mk S t = 0 by omega), decide_eq_false (Int32.not_lt.mpr c64)]; rfl) | (rw [decide_eq_false (show ¬ c_mk S t = 0 by omega), decide_eq_true (Int32.not_le.mp c64), decide_eq_true c75]; rfl) | (rw [decide_eq_false (show ¬ c_mk S t = 0 by omega), decide_eq_true (Int32.not_le.mp c64), decide_eq_false c75]; rfl)) ls (lv_sub hl [0, 4, 5, 6, 7, 3, 2] rfl)
    · have n33 : ¬ (c_mk S t) ≤ 0 := fun h7 => c33 ((nI_leI (a := (c_mk S t)) (b := 0) (by omega) (by omega)).mpr h7)
      refine lv_bipush (v := 6) hx hb dX4_mark_36 (by decide) ?_
      refine lv_iload_n hx hb dX4_mark_38 rfl (lv_at hl 3 rfl) ?_
      refine lv_imul hx hb dX4_mark_39 ?_
      refine lv_topi (fun y9 e9 => ?_)
      have e9 : y9 = nI (6 * t) := e9.trans (pk_mul 6 t)
      subst e9
      refine lv_iload hx hb dX4_mark_40 (lv_at hl 0 rfl) ?_
      refine lv_iadd hx hb dX4_mark_42 ?_
      refine lv_topi (fun y9 e9 => ?_)
      have e9 : y9 = nI ((6 * t) + (c_mk S t)) := e9.trans (nI_add (6 * t) (c_mk S t))
      subst e9
      refine lv_iconst (v := 1) hx hb dX4_mark_43 (by decide) ?_
      refine lv_isub hx hb dX4_mark_44 ?_
      refine lv_topi (fun y9 e9 => ?_)
      have e9 : y9 = nI (6 * t + (c_mk S t - 1)) := e9.trans (by obtain ⟨z, hz⟩ : ∃ z, c_mk S t = z + 1 := ⟨c_mk S t - 1, by omega⟩; rw [hz]; exact nI_pred _)
      subst e9
      refine lv_goto (tgt := 49) hx hb dX4_mark_45 (by decide) ?_
      refine lv_istore (lv' := [(6, .int (nI (6 * t + (c_mk S t - 1)))), (5, .int (nI (c_mk S t))), (4, .int 0), (0, .ref (adr 30)), (1, .int (nI t)), (2, .int a), (3, .int b)]) hx hb dX4_mark_49 hl (by decide) rfl (fun ls hl => ?_)
      refine lv_iload hx hb dX4_mark_51 (lv_at hl 1 rfl) ?_
      refine lv_if_le (tgt := 82) hx hb dX4_mark_53 (by decide) (fun c53 => absurd c53 (c33)) (fun c53 => ?_)
      refine lv_iload_n hx hb dX4_mark_56 rfl (lv_at hl 5 rfl) ?_
      refine lv_aload_n hx hb dX4_mark_57 rfl (lv_at hl 3 rfl) ?_
      refine va_get (D := D) (ci := 4) (v := .ref (adr 33)) (C := RX4) (T := TX4) (N := 16) hx hb hG inG_X4 hown hK hP 30 (wl_at (by omega) hM0) rfl 3 (by decide) (hG _ g_496) (fun _ h9 => h9) rfl dX4_mark_58 ?_
      refine lv_iload hx hb dX4_mark_61 (lv_at hl 0 rfl) ?_
      refine wn_ialde (j := (6 * t + (c_mk S t - 1))) (v := c_ow S t (c_mk S t - 1)) hx hb hK hP (by omega) hM3 (by omega) (by decide) (fl_at (c_ow S) (by omega)) dX4_mark_63 ?_
      refine lv_icmp_le (tgt := 78) hx hb dX4_mark_64 (by decide) (fun c64 => ?_) (fun c64 => ?_)
      · refine lv_iconst (v := 1) hx hb dX4_mark_78 (by decide) ?_
        refine lv_goto (tgt := 83) hx hb dX4_mark_79 (by decide) ?_
        refine lv_istore (lv' := [(7, .int 1), (6, .int (nI (6 * t + (c_mk S t - 1)))), (5, .int (nI (c_mk S t))), (4, .int 0), (0, .ref (adr 30)), (1, .int (nI t)), (2, .int a), (3, .int b)]) hx hb dX4_mark_83 hl (by decide) rfl (fun ls hl => ?_)
        exact J85 true (by unfold c_fol; first | (rw [decide_eq_true (show c_mk S t = 0 by omega)]; rfl) | (rw [decide_eq_false (show ¬ c_mk S t = 0 by omega), decide_eq_false (Int32.not_lt.mpr c64)]; rfl) | (rw [decide_eq_false (show ¬ c_mk S t = 0 by omega), decide_eq_true (Int32.not_le.mp c64), decide_eq_true c75]; rfl) | (rw [decide_eq_false (show ¬ c_mk S t = 0 by omega), decide_eq_true (Int32.not_le.mp c64), decide_eq_false c75]; rfl)) ls (lv_sub hl [0, 4, 5, 6, 7, 3, 2] rfl)
      · refine lv_iload_n hx hb dX4_mark_67 rfl (lv_at hl 6 rfl) ?_
        refine lv_aload_n hx hb dX4_mark_68 rfl (lv_at hl 3 rfl) ?_
        refine va_get (D := D) (ci := 4) (v := .ref (adr 34)) (C := RX4) (T := TX4) (N := 16) hx hb hG inG_X4 hown hK hP 30 (wl_at (by omega) hM0) rfl 4 (by decide) (hG _ g_497) (fun _ h9 => h9) rfl dX4_mark_69 ?_
        refine lv_iload hx hb dX4_mark_72 (lv_at hl 0 rfl) ?_
        refine wn_ialde (j := (6 * t + (c_mk S t - 1))) (v := c_re S t (c_mk S t - 1)) hx hb hK hP (by omega) hM4 (by omega) (by decide) (fl_at (c_re S) (by omega)) dX4_mark_74 ?_
        refine lv_icmp_ge (tgt := 82) hx hb dX4_mark_75 (by decide) (fun c75 => ?_) (fun c75 => ?_)
        · refine lv_iconst (v := 0) hx hb dX4_mark_82 (by decide) ?_
          refine lv_istore (lv' := [(7, .int 0), (6, .int (nI (6 * t + (c_mk S t - 1)))), (5, .int (nI (c_mk S t))), (4, .int 0), (0, .ref (adr 30)), (1, .int (nI t)), (2, .int a), (3, .int b)]) hx hb dX4_mark_83 hl (by decide) rfl (fun ls hl => ?_)
          exact J85 false (by unfold c_fol; first | (rw [decide_eq_true (show c_mk S t = 0 by omega)]; rfl) | (rw [decide_eq_false (show ¬ c_mk S t = 0 by omega), decide_eq_false (Int32.not_lt.mpr c64)]; rfl) | (rw [decide_eq_false (show ¬ c_mk S t = 0 by omega), decide_eq_true (Int32.not_le.mp c64), decide_eq_true c75]; rfl) | (rw [decide_eq_false (show ¬ c_mk S t = 0 by omega), decide_eq_true (Int32.not_le.mp c64), decide_eq_false c75]; rfl)) ls (lv_sub hl [0, 4, 5, 6, 7, 3, 2] rfl)
        · refine lv_iconst (v := 1) hx hb dX4_mark_78 (by decide) ?_
          refine lv_goto (tgt := 83) hx hb dX4_mark_79 (by decide) ?_
          refine lv_istore (lv' := [(7, .int 1), (6, .int (nI (6 * t + (c_mk S t - 1)))), (5, .int (nI (c_mk S t))), (4, .int 0), (0, .ref (adr 30)), (1, .int (nI t)), (2, .int a), (3, .int b)]) hx hb dX4_mark_83 hl (by decide) rfl (fun ls hl => ?_)
          exact J85 true (by unfold c_fol; first | (rw [decide_eq_true (show c_mk S t = 0 by omega)]; rfl) | (rw [decide_eq_false (show ¬ c_mk S t = 0 by omega), decide_eq_false (Int32.not_lt.mpr c64)]; rfl) | (rw [decide_eq_false (show ¬ c_mk S t = 0 by omega), decide_eq_true (Int32.not_le.mp c64), decide_eq_true c75]; rfl) | (rw [decide_eq_false (show ¬ c_mk S t = 0 by omega), decide_eq_true (Int32.not_le.mp c64), decide_eq_false c75]; rfl)) ls (lv_sub hl [0, 4, 5, 6, 7, 3, 2] rfl)
  · have n4 : (inN tt 5) = false := bI_0.mp c4
    refine lv_iconst (v := 1) hx hb dX4_mark_7 (by decide) ?_
    refine lv_goto (tgt := 12) hx hb dX4_mark_8 (by decide) ?_
    refine lv_istore (lv' := [(4, .int 1), (0, .ref (adr 30)), (1, .int tt), (2, .int a), (3, .int b)]) hx hb dX4_mark_12 hl (by decide) rfl (fun ls hl => ?_)
    refine lv_iload hx hb dX4_mark_14 (lv_at hl 0 rfl) ?_
    refine lv_if_eq (tgt := 23) hx hb dX4_mark_16 (by decide) (fun c16 => absurd c16 (by decide)) (fun c16 => ?_)
    refine lv_iconst (v := 0) hx hb dX4_mark_19 (by decide) ?_
    refine lv_goto (tgt := 29) hx hb dX4_mark_20 (by decide) ?_
    refine lv_istore (lv' := [(5, .int 0), (4, .int 1), (0, .ref (adr 30)), (1, .int tt), (2, .int a), (3, .int b)]) hx hb dX4_mark_29 hl (by decide) rfl (fun ls hl => ?_)
    refine lv_iload hx hb dX4_mark_31 (lv_at hl 0 rfl) ?_
    refine lv_if_le (tgt := 48) hx hb dX4_mark_33 (by decide) (fun c33 => ?_) (fun c33 => absurd (by decide) c33)
    refine lv_iconst (v := 0) hx hb dX4_mark_48 (by decide) ?_
    refine lv_istore (lv' := [(6, .int 0), (5, .int 0), (4, .int 1), (0, .ref (adr 30)), (1, .int tt), (2, .int a), (3, .int b)]) hx hb dX4_mark_49 hl (by decide) rfl (fun ls hl => ?_)
    refine lv_iload hx hb dX4_mark_51 (lv_at hl 1 rfl) ?_
    refine lv_if_le (tgt := 82) hx hb dX4_mark_53 (by decide) (fun c53 => ?_) (fun c53 => absurd (by decide) c53)
    refine lv_iconst (v := 0) hx hb dX4_mark_82 (by decide) ?_
    refine lv_istore (lv' := [(7, .int 0), (6, .int 0), (5, .int 0), (4, .int 1), (0, .ref (adr 30)), (1, .int tt), (2, .int a), (3, .int b)]) hx hb dX4_mark_83 hl (by decide) rfl (fun ls hl => ?_)
    refine lv_aload_n hx hb dX4_mark_85 rfl (lv_at hl 4 rfl) ?_
    refine lv_iload hx hb dX4_mark_86 (lv_at hl 3 rfl) ?_
    refine lv_iload hx hb dX4_mark_88 (lv_at hl 2 rfl) ?_
    refine lv_bipush (v := 6) hx hb dX4_mark_90 (by decide) ?_
    refine lv_icmp_ne (tgt := 99) hx hb dX4_mark_92 (by decide) (fun c92 => ?_) (fun c92 => absurd c92 (by decide))
    refine lv_iconst (v := 0) hx hb dX4_mark_99 (by decide) ?_
    refine lv_iload_n hx hb dX4_mark_100 rfl (lv_at hl 6 rfl) ?_
    refine lv_i2l (v := a.toInt64) hx hb dX4_mark_101 rfl ?_
    refine lv_iconst (v := 0) hx hb dX4_mark_102 (by decide) ?_
    refine lv_ldc hx hb hown (hG _ g_556) dX4_mark_103 ?_
    refine wn_rS (rest := [.int 0, .int 1, .ref (adr 30)]) hx hb hml hown hG (cX4_in_r _ _ _) (cwS 3 hG (gS g_553 g_554 g_5 g_555) rfl rfl rfl (by decide +kernel) ⟨Nat.le_of_ble_eq_true rfl, Nat.le_of_ble_eq_true rfl⟩) rfl hl.1 rfl (Nat.le_of_ble_eq_true rfl) dX4_mark_105 ⟨Nat.le_of_ble_eq_true rfl, Nat.le_of_ble_eq_true rfl⟩ ?_
    refine lv_topi (fun y9 e9 => ?_)
    have e9 : y9 = bI (inN a 1000001) := e9.trans (congrArg bI (inr_N a 1000000 (by decide)))
    subst e9
    refine lv_if_eq (tgt := 127) hx hb dX4_mark_108 (by decide) (fun c108 => ?_) (fun c108 => ?_)
    · have n108 : (inN a 1000001) = false := bI_0.mp c108
      refine lv_iconst (v := 1) hx hb dX4_mark_127 (by decide) ?_
      refine lv_goto (tgt := 132) hx hb dX4_mark_128 (by decide) ?_
      refine lv_iconst (v := 0) hx hb dX4_mark_132 (by decide) ?_
      refine wn_wV (rest := []) hx hb hml hown hG hN hP hS (cX4_throwing_w hAd hn hV hR true false true false) (cwV 4 hG (gV g_557 g_559 gp_X4_throwing g_5 g_560) rfl rfl rfl (by decide +kernel) ⟨Nat.le_of_ble_eq_true rfl, Nat.le_of_ble_eq_true rfl⟩) (by omega) hM0 rfl rfl hl.1 rfl (Nat.le_of_ble_eq_true rfl) dX4_mark_133 ⟨Nat.le_of_ble_eq_true rfl, Nat.le_of_ble_eq_true rfl⟩ (fun F12 H locs hFF hP hS => ?_)
      obtain ⟨hR, fF⟩ := hFF
      have h45 : ∀ j, j < 30 ∨ 45 ≤ j → F12 j = E j := fun j hj => (fF j (by omega)).trans (h45 j hj)
      obtain ⟨hM0, hM1, hM2, hM3, hM4, hM5, hM6, hM7, hM8, hM9, hM10, hM11, hM12, hM13, hM14⟩ := id hR
      refine lv_if_eq (tgt := 141) hx hb dX4_mark_136 (by decide) (fun c136 => absurd c136 (by decide)) (fun c136 => ?_)
      refine lv_iconst (v := 0) hx hb dX4_mark_139 (by decide) ?_
      have hk : k_mark S tt a b = 1 := by unfold k_mark; rw [n4]; rfl
      exact W.iret (v := 0) hx hb hr (fun u9 ht _ => ⟨(by rw [hk]; rfl), F12, ⟨by rw [hk]; exact hR, h45⟩, by rw [ht]; exact hP, hS.F ht⟩) hS.2.2 dX4_mark_140
    · have n108 : (inN a 1000001) = true := bI_1.mp c108
      refine lv_iload_n hx hb dX4_mark_111 rfl (lv_at hl 7 rfl) ?_
      refine lv_i2l (v := b.toInt64) hx hb dX4_mark_112 rfl ?_
      refine lv_iconst (v := 0) hx hb dX4_mark_113 (by decide) ?_
      refine lv_ldc hx hb hown (hG _ g_556) dX4_mark_114 ?_
      refine wn_rS (rest := [.int 0, .int 1, .ref (adr 30)]) hx hb hml hown hG (cX4_in_r _ _ _) (cwS 3 hG (gS g_553 g_554 g_5 g_555) rfl rfl rfl (by decide +kernel) ⟨Nat.le_of_ble_eq_true rfl, Nat.le_of_ble_eq_true rfl⟩) rfl hl.1 rfl (Nat.le_of_ble_eq_true rfl) dX4_mark_116 ⟨Nat.le_of_ble_eq_true rfl, Nat.le_of_ble_eq_true rfl⟩ ?_
      refine lv_topi (fun y9 e9 => ?_)
      have e9 : y9 = bI (inN b 1000001) := e9.trans (congrArg bI (inr_N b 1000000 (by decide)))
      subst e9
      refine lv_if_eq (tgt := 127) hx hb dX4_mark_119 (by decide) (fun c119 => ?_) (fun c119 => ?_)
      · have n119 : (inN b 1000001) = false := bI_0.mp c119
        refine lv_iconst (v := 1) hx hb dX4_mark_127 (by decide) ?_
        refine lv_goto (tgt := 132) hx hb dX4_mark_128 (by decide) ?_
        refine lv_iconst (v := 0) hx hb dX4_mark_132 (by decide) ?_
        refine wn_wV (rest := []) hx hb hml hown hG hN hP hS (cX4_throwing_w hAd hn hV hR true false true false) (cwV 4 hG (gV g_557 g_559 gp_X4_throwing g_5 g_560) rfl rfl rfl (by decide +kernel) ⟨Nat.le_of_ble_eq_true rfl, Nat.le_of_ble_eq_true rfl⟩) (by omega) hM0 rfl rfl hl.1 rfl (Nat.le_of_ble_eq_true rfl) dX4_mark_133 ⟨Nat.le_of_ble_eq_true rfl, Nat.le_of_ble_eq_true rfl⟩ (fun F13 H locs hFF hP hS => ?_)
        obtain ⟨hR, fF⟩ := hFF
        have h45 : ∀ j, j < 30 ∨ 45 ≤ j → F13 j = E j := fun j hj => (fF j (by omega)).trans (h45 j hj)
        obtain ⟨hM0, hM1, hM2, hM3, hM4, hM5, hM6, hM7, hM8, hM9, hM10, hM11, hM12, hM13, hM14⟩ := id hR
        refine lv_if_eq (tgt := 141) hx hb dX4_mark_136 (by decide) (fun c136 => absurd c136 (by decide)) (fun c136 => ?_)
        refine lv_iconst (v := 0) hx hb dX4_mark_139 (by decide) ?_
        have hk : k_mark S tt a b = 1 := by unfold k_mark; rw [n4]; rfl
        exact W.iret (v := 0) hx hb hr (fun u9 ht _ => ⟨(by rw [hk]; rfl), F13, ⟨by rw [hk]; exact hR, h45⟩, by rw [ht]; exact hP, hS.F ht⟩) hS.2.2 dX4_mark_140
      · have n119 : (inN b 1000001) = true := bI_1.mp c119
        refine lv_iload hx hb dX4_mark_122 (lv_at hl 0 rfl) ?_
        refine lv_if_eq (tgt := 131) hx hb dX4_mark_124 (by decide) (fun c124 => ?_) (fun c124 => absurd (by decide) c124)
        refine lv_iconst (v := 0) hx hb dX4_mark_131 (by decide) ?_
        refine lv_iconst (v := 0) hx hb dX4_mark_132 (by decide) ?_
        refine wn_wV (rest := []) hx hb hml hown hG hN hP hS (cX4_throwing_w hAd hn hV hR true false false false) (cwV 4 hG (gV g_557 g_559 gp_X4_throwing g_5 g_560) rfl rfl rfl (by decide +kernel) ⟨Nat.le_of_ble_eq_true rfl, Nat.le_of_ble_eq_true rfl⟩) (by omega) hM0 rfl rfl hl.1 rfl (Nat.le_of_ble_eq_true rfl) dX4_mark_133 ⟨Nat.le_of_ble_eq_true rfl, Nat.le_of_ble_eq_true rfl⟩ (fun F14 H locs hFF hP hS => ?_)
        obtain ⟨hR, fF⟩ := hFF
        have h45 : ∀ j, j < 30 ∨ 45 ≤ j → F14 j = E j := fun j hj => (fF j (by omega)).trans (h45 j hj)
        obtain ⟨hM0, hM1, hM2, hM3, hM4, hM5, hM6, hM7, hM8, hM9, hM10, hM11, hM12, hM13, hM14⟩ := id hR
        refine lv_if_eq (tgt := 141) hx hb dX4_mark_136 (by decide) (fun c136 => absurd c136 (by decide)) (fun c136 => ?_)
        refine lv_iconst (v := 0) hx hb dX4_mark_139 (by decide) ?_
        have hk : k_mark S tt a b = 1 := by unfold k_mark; rw [n4]; rfl
        exact W.iret (v := 0) hx hb hr (fun u9 ht _ => ⟨(by rw [hk]; rfl), F14, ⟨by rw [hk]; exact hR, h45⟩, by rw [ht]; exact hP, hS.F ht⟩) hS.2.2 dX4_mark_140

set_option maxHeartbeats 4000000 in
set_option maxRecDepth 100000 in
theorem cX4_gap_w {l : Launch} {D : va_G} {cA : Nat → ClassId} {adr : Nat → Nat} {n : Nat} {E : Nat → va_E} {lo : Nat} (hAd : wd_ad lo n adr) {S : CS} {th : Int32} (hn : 45 ≤ n) (hV : Inv S) (hR : RepM cA adr S th E) (dd tt kk : Int32) : Met l yX4_gap (.code yX4_gap cX4_gap 8 (some .int) :: lw_G) ({ frames := 2, cells := 0, slots := 0, locals := 43 } : Room) (va_Pc [.ref (adr 30), .int dd, .int tt, .int kk] (wdU D (kty cA) adr n E)) (wq D lo adr n (some (.int (if k_gap S dd tt kk = 0 then r_gap S dd tt kk else 0))) (fun E2 => RepM cA adr (if k_gap S dd tt kk = 0 then S else S) (nI (k_gap S dd tt kk)) E2 ∧ ∀ j, j < 30 ∨ 45 ≤ j → E2 j = E j)) 0 0 (fun q => lo ≤ q) := by
  refine Met.ofW (cc := cX4_gap) (maxL := 8) (ret := (some .int)) (by decide) rfl ?_
  intro p e s m args below meth c s₁ B hml hv
  obtain ⟨rfl, hP, hN⟩ := hv
  have hx := B.exec
  have hb := B.bytes
  have hr := B.returns
  have hG : ∀ w ∈ lw_G, w.before _ s = true := fun w h => atoms_spec (ws := _ :: lw_G) B.pre w (List.mem_cons_of_mem _ h)
  have hown : s.vm.findClass RX4 = some m.cls := findClass_of_methodNamed B.named
  have hlocks := B.notSynchronized
  have hK := hN.1
  have hS : va_S (fun q => lo ≤ q) s.heap s.heap [] := va_S.rf
  have hF : ∀ j, j ≠ 30 → E j = E j := fun j _ => rfl
  have hl := lv_entry ([.ref (adr 30), .int dd, .int tt, .int kk]) (n := 8) (Nat.le_of_ble_eq_true rfl)
  rw [lg_entry_eq]
  generalize (lg_sl ([.ref (adr 30), .int dd, .int tt, .int kk]) ++ List.replicate (8 - (lg_sl ([.ref (adr 30), .int dd, .int tt, .int kk])).length) Slot.unset).toArray = ls at hl ⊢
  have hl : lv_has ls 8 [(0, .ref (adr 30)), (1, .int dd), (2, .int tt), (3, .int kk)] := hl
  obtain ⟨hM0, hM1, hM2, hM3, hM4, hM5, hM6, hM7, hM8, hM9, hM10, hM11, hM12, hM13, hM14⟩ := id hR
  obtain ⟨hct, hnm, htd, hmk, hlf, hnt, hnu, hcn, hmz, hmm, hib, hmr, hrise⟩ := id hV
  have h45 : ∀ j, j < 30 ∨ 45 ≤ j → E j = E j := fun _ _ => rfl
  refine lv_aload_n hx hb dX4_gap_0 rfl (lv_at hl 0 rfl) ?_
  refine lv_iload_n hx hb dX4_gap_1 rfl (lv_at hl 1 rfl) ?_
  refine wn_rS (rest := [.ref (adr 30)]) hx hb hml hown hG (cX4_isDesk_r _) (cwS 1 hG (gS g_573 g_574 g_5 g_575) rfl rfl rfl (by decide +kernel) ⟨Nat.le_of_ble_eq_true rfl, Nat.le_of_ble_eq_true rfl⟩) rfl hl.1 rfl (Nat.le_of_ble_eq_true rfl) dX4_gap_2 ⟨Nat.le_of_ble_eq_true rfl, Nat.le_of_ble_eq_true rfl⟩ ?_
  refine lv_if_eq (tgt := 19) hx hb dX4_gap_5 (by decide) (fun c5 => ?_) (fun c5 => ?_)
  · have n5 : (inN dd 3) = false := bI_0.mp c5
    refine lv_iconst (v := 1) hx hb dX4_gap_19 (by decide) ?_
    refine lv_goto (tgt := 24) hx hb dX4_gap_20 (by decide) ?_
    refine lv_iconst (v := 0) hx hb dX4_gap_24 (by decide) ?_
    refine lv_iconst (v := 0) hx hb dX4_gap_25 (by decide) ?_
    refine lv_iconst (v := 0) hx hb dX4_gap_26 (by decide) ?_
    refine wn_wV (rest := []) hx hb hml hown hG hN hP hS (cX4_throwing_w hAd hn hV hR true false false false) (cwV 4 hG (gV g_557 g_559 gp_X4_throwing g_5 g_560) rfl rfl rfl (by decide +kernel) ⟨Nat.le_of_ble_eq_true rfl, Nat.le_of_ble_eq_true rfl⟩) (by omega) hM0 rfl rfl hl.1 rfl (Nat.le_of_ble_eq_true rfl) dX4_gap_27 ⟨Nat.le_of_ble_eq_true rfl, Nat.le_of_ble_eq_true rfl⟩ (fun F1 H locs hFF hP hS => ?_)
    obtain ⟨hR, fF⟩ := hFF
    have h45 : ∀ j, j < 30 ∨ 45 ≤ j → F1 j = E j := fun j hj => (fF j (by omega)).trans (h45 j hj)
    obtain ⟨hM0, hM1, hM2, hM3, hM4, hM5, hM6, hM7, hM8, hM9, hM10, hM11, hM12, hM13, hM14⟩ := id hR
    refine lv_if_eq (tgt := 35) hx hb dX4_gap_30 (by decide) (fun c30 => absurd c30 (by decide)) (fun c30 => ?_)
    refine lv_iconst (v := 0) hx hb dX4_gap_33 (by decide) ?_
    have hk : k_gap S dd tt kk = 1 := by unfold k_gap; first | (rw [n5]; rfl) | (rw [n12, Bool.and_false]; rfl) | (rw [decide_eq_false (show ¬ (0 : Int32) ≤ kk from fun h9 => c16 h9), Bool.and_false]; rfl)
    exact W.iret (v := 0) hx hb hr (fun u9 ht _ => ⟨(by rw [hk]; rfl), F1, ⟨by rw [hk]; exact hR, h45⟩, by rw [ht]; exact hP, hS.F ht⟩) hS.2.2 dX4_gap_34
  · have n5 : (inN dd 3) = true := bI_1.mp c5
    refine lv_iload_n hx hb dX4_gap_8 rfl (lv_at hl 2 rfl) ?_
    refine wn_rS (rest := [.ref (adr 30)]) hx hb hml hown hG (cX4_isTeller_r _) (cwS 1 hG (gS g_550 g_551 g_5 g_552) rfl rfl rfl (by decide +kernel) ⟨Nat.le_of_ble_eq_true rfl, Nat.le_of_ble_eq_true rfl⟩) rfl hl.1 rfl (Nat.le_of_ble_eq_true rfl) dX4_gap_9 ⟨Nat.le_of_ble_eq_true rfl, Nat.le_of_ble_eq_true rfl⟩ ?_
    refine lv_if_eq (tgt := 19) hx hb dX4_gap_12 (by decide) (fun c12 => ?_) (fun c12 => ?_)
    · have n12 : (inN tt 5) = false := bI_0.mp c12
      refine lv_iconst (v := 1) hx hb dX4_gap_19 (by decide) ?_
      refine lv_goto (tgt := 24) hx hb dX4_gap_20 (by decide) ?_
      refine lv_iconst (v := 0) hx hb dX4_gap_24 (by decide) ?_
      refine lv_iconst (v := 0) hx hb dX4_gap_25 (by decide) ?_
      refine lv_iconst (v := 0) hx hb dX4_gap_26 (by decide) ?_
      refine wn_wV (rest := []) hx hb hml hown hG hN hP hS (cX4_throwing_w hAd hn hV hR true false false false) (cwV 4 hG (gV g_557 g_559 gp_X4_throwing g_5 g_560) rfl rfl rfl (by decide +kernel) ⟨Nat.le_of_ble_eq_true rfl, Nat.le_of_ble_eq_true rfl⟩) (by omega) hM0 rfl rfl hl.1 rfl (Nat.le_of_ble_eq_true rfl) dX4_gap_27 ⟨Nat.le_of_ble_eq_true rfl, Nat.le_of_ble_eq_true rfl⟩ (fun F2 H locs hFF hP hS => ?_)
      obtain ⟨hR, fF⟩ := hFF
      have h45 : ∀ j, j < 30 ∨ 45 ≤ j → F2 j = E j := fun j hj => (fF j (by omega)).trans (h45 j hj)
      obtain ⟨hM0, hM1, hM2, hM3, hM4, hM5, hM6, hM7, hM8, hM9, hM10, hM11, hM12, hM13, hM14⟩ := id hR
      refine lv_if_eq (tgt := 35) hx hb dX4_gap_30 (by decide) (fun c30 => absurd c30 (by decide)) (fun c30 => ?_)
      refine lv_iconst (v := 0) hx hb dX4_gap_33 (by decide) ?_
      have hk : k_gap S dd tt kk = 1 := by unfold k_gap; first | (rw [n5]; rfl) | (rw [n12, Bool.and_false]; rfl) | (rw [decide_eq_false (show ¬ (0 : Int32) ≤ kk from fun h9 => c16 h9), Bool.and_false]; rfl)
      exact W.iret (v := 0) hx hb hr (fun u9 ht _ => ⟨(by rw [hk]; rfl), F2, ⟨by rw [hk]; exact hR, h45⟩, by rw [ht]; exact hP, hS.F ht⟩) hS.2.2 dX4_gap_34
    · have n12 : (inN tt 5) = true := bI_1.mp c12
      refine lv_iload_n hx hb dX4_gap_15 rfl (lv_at hl 3 rfl) ?_
      refine lv_if_ge (tgt := 23) hx hb dX4_gap_16 (by decide) (fun c16 => ?_) (fun c16 => ?_)
      · refine lv_iconst (v := 0) hx hb dX4_gap_23 (by decide) ?_
        refine lv_iconst (v := 0) hx hb dX4_gap_24 (by decide) ?_
        refine lv_iconst (v := 0) hx hb dX4_gap_25 (by decide) ?_
        refine lv_iconst (v := 0) hx hb dX4_gap_26 (by decide) ?_
        refine wn_wV (rest := []) hx hb hml hown hG hN hP hS (cX4_throwing_w hAd hn hV hR false false false false) (cwV 4 hG (gV g_557 g_559 gp_X4_throwing g_5 g_560) rfl rfl rfl (by decide +kernel) ⟨Nat.le_of_ble_eq_true rfl, Nat.le_of_ble_eq_true rfl⟩) (by omega) hM0 rfl rfl hl.1 rfl (Nat.le_of_ble_eq_true rfl) dX4_gap_27 ⟨Nat.le_of_ble_eq_true rfl, Nat.le_of_ble_eq_true rfl⟩ (fun F3 H locs hFF hP hS => ?_)
        obtain ⟨hR, fF⟩ := hFF
        have h45 : ∀ j, j < 30 ∨ 45 ≤ j → F3 j = E j := fun j hj => (fF j (by omega)).trans (h45 j hj)
        obtain ⟨hM0, hM1, hM2, hM3, hM4, hM5, hM6, hM7, hM8, hM9, hM10, hM11, hM12, hM13, hM14⟩ := id hR
        have hR : RepM cA adr S 0 F3 := hR
        refine lv_if_eq (tgt := 35) hx hb dX4_gap_30 (by decide) (fun c30 => ?_) (fun c30 => absurd (by decide) c30)
        obtain ⟨d, hd, rfl⟩ := inN_of n5 (by decide)
        obtain ⟨t, ht, rfl⟩ := inN_of n12 (by decide)
        obtain ⟨q, hq, rfl⟩ := nI_of (Int32.not_lt.mpr c16)
        refine lv_bipush (v := 99) hx hb dX4_gap_35 (by decide) ?_
        refine lv_istore (lv' := [(4, .int 99), (0, .ref (adr 30)), (1, .int (nI d)), (2, .int (nI t)), (3, .int (nI q))]) hx hb dX4_gap_37 hl (by decide) rfl (fun ls hl => ?_)
        have L39 : ∀ (f : Nat) (y : Nat), y < f → y ≤ 100 → (∀ j, y ≤ j → j < 100 → c_hN S d t j = false) → ∀ ls : Array Slot, lv_has ls 8 [(4, .int (mI y)), (0, .ref (adr 30)), (1, .int (nI d)), (2, .int (nI t)), (3, .int (nI q))] → W p l e (headSpec (.code yX4_gap cX4_gap 8 (some .int) :: lw_G) ({ frames := 2, cells := 0, slots := 0, locals := 43 } : Room)).room s m [.ref (adr 30), .int (nI d), .int (nI t), .int (nI q)].toArray below meth c H locs 0 0 (MQ below (wq D lo adr n (some (.int (if k_gap S (nI d) (nI t) (nI q) = 0 then r_gap S (nI d) (nI t) (nI q) else 0))) (fun E2 => RepM cA adr (if k_gap S (nI d) (nI t) (nI q) = 0 then S else S) (nI (k_gap S (nI d) (nI t) (nI q))) E2 ∧ ∀ j, j < 30 ∨ 45 ≤ j → E2 j = E j)) [.ref (adr 30), .int (nI d), .int (nI t), .int (nI q)].toArray s 0 0 (fun q => lo ≤ q)) (F0 m 39 ls []) := by
          intro f
          induction f with
          | zero => intro y h0; exact absurd h0 (by omega)
          | succ f ih39 =>
            intro y hf hy hab ls hl
            rcases y with _ | u
            · have hl : lv_has ls 8 [(4, .int (-1)), (0, .ref (adr 30)), (1, .int (nI d)), (2, .int (nI t)), (3, .int (nI q))] := hl
              refine lv_iload hx hb dX4_gap_39 (lv_at hl 0 rfl) ?_
              refine lv_if_lt (tgt := 61) hx hb dX4_gap_41 (by decide) (fun c41 => ?_) (fun c41 => absurd (by decide) c41)
              refine lv_iconst (v := 0) hx hb dX4_gap_61 (by decide) ?_
              refine lv_istore (lv' := [(5, .int 0), (4, .int (-1)), (0, .ref (adr 30)), (1, .int (nI d)), (2, .int (nI t)), (3, .int (nI q))]) hx hb dX4_gap_62 hl (by decide) rfl (fun ls hl => ?_)
              refine lv_iconst (v := 0) hx hb dX4_gap_64 (by decide) ?_
              refine lv_istore (lv' := [(6, .int 0), (5, .int 0), (4, .int (-1)), (0, .ref (adr 30)), (1, .int (nI d)), (2, .int (nI t)), (3, .int (nI q))]) hx hb dX4_gap_65 hl (by decide) rfl (fun ls hl => ?_)
              refine lv_iload hx hb dX4_gap_67 (lv_at hl 0 rfl) ?_
              refine lv_iload hx hb dX4_gap_69 (lv_at hl 2 rfl) ?_
              refine lv_icmp_ge (tgt := 138) hx hb dX4_gap_71 (by decide) (fun c71 => ?_) (fun c71 => absurd (by decide) c71)
              refine lv_iconst (v := (-1)) hx hb dX4_gap_138 (by decide) ?_
              have hk : k_gap S (nI d) (nI t) (nI q) = 0 := by unfold k_gap; rw [n5, n12, decide_eq_true c16]; rfl
              exact W.iret (v := (-1)) hx hb hr (fun u9 ht _ => ⟨(by rw [hk, if_pos rfl]; exact congrArg (fun z => Outcome.returned (some (Value.int z))) (by unfold r_gap; rw [nI_clamp (by omega), nI_clamp (by omega), nI_clamp (by omega)]; rw [gtop_0 (fun j hj => hab j (by omega) hj)]; rfl)), F3, ⟨by rw [hk]; exact hR, h45⟩, by rw [ht]; exact hP, hS.F ht⟩) hS.2.2 dX4_gap_139
            · have hl : lv_has ls 8 [(4, .int (nI u)), (0, .ref (adr 30)), (1, .int (nI d)), (2, .int (nI t)), (3, .int (nI q))] := (mI_s u) ▸ hl
              refine lv_iload hx hb dX4_gap_39 (lv_at hl 0 rfl) ?_
              refine lv_if_lt (tgt := 61) hx hb dX4_gap_41 (by decide) (fun c41 => absurd c41 (nI_pos (by omega))) (fun c41 => ?_)
              refine lv_aload_n hx hb dX4_gap_44 rfl (lv_at hl 1 rfl) ?_
              refine lv_iload_n hx hb dX4_gap_45 rfl (lv_at hl 2 rfl) ?_
              refine lv_iload_n hx hb dX4_gap_46 rfl (lv_at hl 3 rfl) ?_
              refine lv_iload hx hb dX4_gap_47 (lv_at hl 0 rfl) ?_
              refine wn_rV (rest := []) hx hb hml hown hG hN hP (cX4_hasNumber_r hn hV hR (d := d) (t := t) (u := u) hd ht (by omega)) (cwV 3 hG (gV g_651 g_653 gp_X4_hasNumber g_5 g_654) rfl rfl rfl (by decide +kernel) ⟨Nat.le_of_ble_eq_true rfl, Nat.le_of_ble_eq_true rfl⟩) (by omega) hM0 rfl rfl hl.1 rfl (Nat.le_of_ble_eq_true rfl) dX4_gap_49 ⟨Nat.le_of_ble_eq_true rfl, Nat.le_of_ble_eq_true rfl⟩ ?_
              refine lv_if_ne (tgt := 61) hx hb dX4_gap_52 (by decide) (fun c52 => ?_) (fun c52 => ?_)
              · have n52 : (c_hN S d t u) = true := bI_1.mp c52
                have hu2 : u < 100 := by omega
                have hu3 : c_hN S d t u = true := n52
                refine lv_iconst (v := 0) hx hb dX4_gap_61 (by decide) ?_
                refine lv_istore (lv' := [(5, .int 0), (4, .int (nI u)), (0, .ref (adr 30)), (1, .int (nI d)), (2, .int (nI t)), (3, .int (nI q))]) hx hb dX4_gap_62 hl (by decide) rfl (fun ls hl => ?_)
                refine lv_iconst (v := 0) hx hb dX4_gap_64 (by decide) ?_
                refine lv_istore (lv' := [(6, .int 0), (5, .int 0), (4, .int (nI u)), (0, .ref (adr 30)), (1, .int (nI d)), (2, .int (nI t)), (3, .int (nI q))]) hx hb dX4_gap_65 hl (by decide) rfl (fun ls hl => ?_)
                have L67 : ∀ (f : Nat) (a : Nat), u + 1 - a < f → a ≤ u + 1 → gF (c_hN S d t) a = none → fiB (gapB (c_hN S d t) q) a = none → ∀ ls : Array Slot, lv_has ls 8 [(6, .int (nI a)), (5, .int (nI (gC (c_hN S d t) a))), (0, .ref (adr 30)), (1, .int (nI d)), (2, .int (nI t)), (3, .int (nI q)), (4, .int (nI u))] → W p l e (headSpec (.code yX4_gap cX4_gap 8 (some .int) :: lw_G) ({ frames := 2, cells := 0, slots := 0, locals := 43 } : Room)).room s m [.ref (adr 30), .int (nI d), .int (nI t), .int (nI q)].toArray below meth c H locs 0 0 (MQ below (wq D lo adr n (some (.int (if k_gap S (nI d) (nI t) (nI q) = 0 then r_gap S (nI d) (nI t) (nI q) else 0))) (fun E2 => RepM cA adr (if k_gap S (nI d) (nI t) (nI q) = 0 then S else S) (nI (k_gap S (nI d) (nI t) (nI q))) E2 ∧ ∀ j, j < 30 ∨ 45 ≤ j → E2 j = E j)) [.ref (adr 30), .int (nI d), .int (nI t), .int (nI q)].toArray s 0 0 (fun q => lo ≤ q)) (F0 m 67 ls []) := by
                  intro f
                  induction f with
                  | zero => intro a h0; exact absurd h0 (by omega)
                  | succ f ih67 =>
                    intro a hf ha ga gn ls hl
                    have bgc := gC_le (h := (c_hN S d t)) (i := a)
                    refine lv_iload hx hb dX4_gap_67 (lv_at hl 0 rfl) ?_
                    refine lv_iload hx hb dX4_gap_69 (lv_at hl 6 rfl) ?_
                    refine lv_icmp_ge (tgt := 138) hx hb dX4_gap_71 (by decide) (fun c71 => ?_) (fun c71 => ?_)
                    · have n71 : u ≤ a := (nI_leI (a := u) (b := a) (by omega) (by omega)).mp c71
                      refine lv_iconst (v := (-1)) hx hb dX4_gap_138 (by decide) ?_
                      have hk : k_gap S (nI d) (nI t) (nI q) = 0 := by unfold k_gap; rw [n5, n12, decide_eq_true c16]; rfl
                      exact W.iret (v := (-1)) hx hb hr (fun u9 ht _ => ⟨(by rw [hk, if_pos rfl]; exact congrArg (fun z => Outcome.returned (some (Value.int z))) (by unfold r_gap; rw [nI_clamp (by omega), nI_clamp (by omega), nI_clamp (by omega)]; rw [gtop_s hu2 hu3 hab]; refine (gap_none ?_).symm; rcases (show a = u + 1 ∨ a = u by omega) with q | q; (rw [← q]; exact gn); (rw [← q]; exact fiB_miss gn (gapB_n ga)))), F3, ⟨by rw [hk]; exact hR, h45⟩, by rw [ht]; exact hP, hS.F ht⟩) hS.2.2 dX4_gap_139
                    · have n71 : ¬ u ≤ a := fun h7 => c71 ((nI_leI (a := u) (b := a) (by omega) (by omega)).mpr h7)
                      refine lv_iload hx hb dX4_gap_74 (lv_at hl 0 rfl) ?_
                      refine lv_istore (lv' := [(7, .int (nI a)), (6, .int (nI a)), (5, .int (nI (gC (c_hN S d t) a))), (0, .ref (adr 30)), (1, .int (nI d)), (2, .int (nI t)), (3, .int (nI q)), (4, .int (nI u))]) hx hb dX4_gap_76 hl (by decide) rfl (fun ls hl => ?_)
                      have L78 : ∀ (f : Nat) (i : Nat), u - i < f → a ≤ i → i ≤ u → gF (c_hN S d t) i = (if a = i then none else some a) → gC (c_hN S d t) i = gC (c_hN S d t) a → fiB (gapB (c_hN S d t) q) i = none → ∀ ls : Array Slot, lv_has ls 8 [(7, .int (nI i)), (5, .int (nI (gC (c_hN S d t) a))), (6, .int (nI a)), (0, .ref (adr 30)), (1, .int (nI d)), (2, .int (nI t)), (3, .int (nI q)), (4, .int (nI u))] → W p l e (headSpec (.code yX4_gap cX4_gap 8 (some .int) :: lw_G) ({ frames := 2, cells := 0, slots := 0, locals := 43 } : Room)).room s m [.ref (adr 30), .int (nI d), .int (nI t), .int (nI q)].toArray below meth c H locs 0 0 (MQ below (wq D lo adr n (some (.int (if k_gap S (nI d) (nI t) (nI q) = 0 then r_gap S (nI d) (nI t) (nI q) else 0))) (fun E2 => RepM cA adr (if k_gap S (nI d) (nI t) (nI q) = 0 then S else S) (nI (k_gap S (nI d) (nI t) (nI q))) E2 ∧ ∀ j, j < 30 ∨ 45 ≤ j → E2 j = E j)) [.ref (adr 30), .int (nI d), .int (nI t), .int (nI q)].toArray s 0 0 (fun q => lo ≤ q)) (F0 m 78 ls []) := by
                        intro f
                        induction f with
                        | zero => intro i h0; exact absurd h0 (by omega)
                        | succ f ih78 =>
                          intro i hf hi hi2 g0 gcc gn ls hl
                          refine lv_iload hx hb dX4_gap_78 (lv_at hl 0 rfl) ?_
                          refine lv_iload hx hb dX4_gap_80 (lv_at hl 7 rfl) ?_
                          refine lv_icmp_ge (tgt := 102) hx hb dX4_gap_82 (by decide) (fun c82 => ?_) (fun c82 => ?_)
                          · have n82 : u ≤ i := (nI_leI (a := u) (b := i) (by omega) (by omega)).mp c82
                            have ei9 : i = u := by omega
                            have hend : c_hN S d t i = true := by rw [ei9]; exact hu3
                            refine lv_iload hx hb dX4_gap_102 (lv_at hl 0 rfl) ?_
                            refine lv_iload hx hb dX4_gap_104 (lv_at hl 2 rfl) ?_
                            refine lv_icmp_le (tgt := 129) hx hb dX4_gap_106 (by decide) (fun c106 => ?_) (fun c106 => ?_)
                            · have n106 : i ≤ a := (nI_leI (a := i) (b := a) (by omega) (by omega)).mp c106
                              have hgc : gC (c_hN S d t) (i + 1) = gC (c_hN S d t) a := (gC_n (by rw [g0, if_pos (by omega)])).trans gcc
                              rw [← hgc] at hl
                              refine lv_iload hx hb dX4_gap_129 (lv_at hl 0 rfl) ?_
                              refine lv_iconst (v := 1) hx hb dX4_gap_131 (by decide) ?_
                              refine lv_iadd hx hb dX4_gap_132 ?_
                              refine lv_topi (fun y9 e9 => ?_)
                              have e9 : y9 = nI (i + 1) := e9.trans (nI_add i 1)
                              subst e9
                              refine lv_istore (lv' := [(6, .int (nI (i + 1))), (7, .int (nI i)), (5, .int (nI (gC (c_hN S d t) (i + 1)))), (0, .ref (adr 30)), (1, .int (nI d)), (2, .int (nI t)), (3, .int (nI q)), (4, .int (nI u))]) hx hb dX4_gap_133 hl (by decide) rfl (fun ls hl => ?_)
                              refine lv_goto (tgt := 67) hx hb dX4_gap_135 (by decide) ?_
                              exact ih67 (i + 1) (by omega) (by omega) (gF_t hend) (by first | exact fiB_miss gn (gapB_c (fun h9 => n112 (gcc.symm.trans h9))) | exact fiB_miss gn (gapB_n (by rw [g0, if_pos (by omega)]))) ls (lv_sub hl [0, 2, 3, 4, 5, 6, 7] rfl)
                            · have n106 : ¬ i ≤ a := fun h7 => c106 ((nI_leI (a := i) (b := a) (by omega) (by omega)).mpr h7)
                              refine lv_iload hx hb dX4_gap_109 (lv_at hl 1 rfl) ?_
                              refine lv_iload_n hx hb dX4_gap_111 rfl (lv_at hl 6 rfl) ?_
                              refine lv_icmp_ne (tgt := 126) hx hb dX4_gap_112 (by decide) (fun c112 => ?_) (fun c112 => ?_)
                              · have n112 : ¬ (gC (c_hN S d t) a) = q := fun h7 => c112 ((nI_eq (a := (gC (c_hN S d t) a)) (b := q) (by omega) (by omega)).mpr h7)
                                refine lv_iinc (v := nI (gC (c_hN S d t) (i + 1))) (lv' := [(5, .int (nI (gC (c_hN S d t) (i + 1)))), (7, .int (nI i)), (6, .int (nI a)), (0, .ref (adr 30)), (1, .int (nI d)), (2, .int (nI t)), (3, .int (nI q)), (4, .int (nI u))]) hx hb dX4_gap_126 hl (k := 1) rfl (by rw [gC_s hend (y := a) (by rw [g0, if_neg (by omega)]), gcc]; exact nI_1 _) (by decide) rfl (fun ls hl => ?_)
                                refine lv_iload hx hb dX4_gap_129 (lv_at hl 1 rfl) ?_
                                refine lv_iconst (v := 1) hx hb dX4_gap_131 (by decide) ?_
                                refine lv_iadd hx hb dX4_gap_132 ?_
                                refine lv_topi (fun y9 e9 => ?_)
                                have e9 : y9 = nI (i + 1) := e9.trans (nI_add i 1)
                                subst e9
                                refine lv_istore (lv' := [(6, .int (nI (i + 1))), (5, .int (nI (gC (c_hN S d t) (i + 1)))), (7, .int (nI i)), (0, .ref (adr 30)), (1, .int (nI d)), (2, .int (nI t)), (3, .int (nI q)), (4, .int (nI u))]) hx hb dX4_gap_133 hl (by decide) rfl (fun ls hl => ?_)
                                refine lv_goto (tgt := 67) hx hb dX4_gap_135 (by decide) ?_
                                exact ih67 (i + 1) (by omega) (by omega) (gF_t hend) (by first | exact fiB_miss gn (gapB_c (fun h9 => n112 (gcc.symm.trans h9))) | exact fiB_miss gn (gapB_n (by rw [g0, if_pos (by omega)]))) ls (lv_sub hl [0, 1, 3, 4, 5, 6, 7] rfl)
                              · have n112 : (gC (c_hN S d t) a) = q := (nI_eq (a := (gC (c_hN S d t) a)) (b := q) (by omega) (by omega)).mp c112
                                refine lv_bipush (v := 100) hx hb dX4_gap_115 (by decide) ?_
                                refine lv_iload hx hb dX4_gap_117 (lv_at hl 2 rfl) ?_
                                refine lv_imul hx hb dX4_gap_119 ?_
                                refine lv_topi (fun y9 e9 => ?_)
                                have e9 : y9 = nI (100 * a) := e9.trans (pk_mul 100 a)
                                subst e9
                                refine lv_iload hx hb dX4_gap_120 (lv_at hl 0 rfl) ?_
                                refine lv_iadd hx hb dX4_gap_122 ?_
                                refine lv_topi (fun y9 e9 => ?_)
                                have e9 : y9 = nI ((100 * a) + i) := e9.trans (nI_add (100 * a) i)
                                subst e9
                                refine lv_iconst (v := 1) hx hb dX4_gap_123 (by decide) ?_
                                refine lv_isub hx hb dX4_gap_124 ?_
                                have hk : k_gap S (nI d) (nI t) (nI q) = 0 := by unfold k_gap; rw [n5, n12, decide_eq_true c16]; rfl
                                exact W.iret (v := (nI ((100 * a) + i)) - 1) hx hb hr (fun u9 ht _ => ⟨(by rw [hk, if_pos rfl]; exact congrArg (fun z => Outcome.returned (some (Value.int z))) (by unfold r_gap; rw [nI_clamp (by omega), nI_clamp (by omega), nI_clamp (by omega)]; rw [gtop_s hu2 hu3 hab]; rw [gap_some (y := a) (fiB_hit gn (gapB_t hend (by rw [g0, if_neg (by omega)]) (gcc.trans n112)) (by omega)) (by rw [g0, if_neg (by omega)])]; obtain ⟨z, hz⟩ : ∃ z, 100 * a + i = z + 1 := ⟨100 * a + i - 1, by omega⟩; rw [hz]; exact nI_pred _)), F3, ⟨by rw [hk]; exact hR, h45⟩, by rw [ht]; exact hP, hS.F ht⟩) hS.2.2 dX4_gap_125
                          · have n82 : ¬ u ≤ i := fun h7 => c82 ((nI_leI (a := u) (b := i) (by omega) (by omega)).mpr h7)
                            refine lv_aload_n hx hb dX4_gap_85 rfl (lv_at hl 3 rfl) ?_
                            refine lv_iload_n hx hb dX4_gap_86 rfl (lv_at hl 4 rfl) ?_
                            refine lv_iload_n hx hb dX4_gap_87 rfl (lv_at hl 5 rfl) ?_
                            refine lv_iload hx hb dX4_gap_88 (lv_at hl 0 rfl) ?_
                            refine wn_rV (rest := []) hx hb hml hown hG hN hP (cX4_hasNumber_r hn hV hR (d := d) (t := t) (u := i) hd ht (by omega)) (cwV 3 hG (gV g_651 g_653 gp_X4_hasNumber g_5 g_654) rfl rfl rfl (by decide +kernel) ⟨Nat.le_of_ble_eq_true rfl, Nat.le_of_ble_eq_true rfl⟩) (by omega) hM0 rfl rfl hl.1 rfl (Nat.le_of_ble_eq_true rfl) dX4_gap_90 ⟨Nat.le_of_ble_eq_true rfl, Nat.le_of_ble_eq_true rfl⟩ ?_
                            refine lv_if_ne (tgt := 102) hx hb dX4_gap_93 (by decide) (fun c93 => ?_) (fun c93 => ?_)
                            · have n93 : (c_hN S d t i) = true := bI_1.mp c93
                              have hend : c_hN S d t i = true := n93
                              refine lv_iload hx hb dX4_gap_102 (lv_at hl 0 rfl) ?_
                              refine lv_iload hx hb dX4_gap_104 (lv_at hl 2 rfl) ?_
                              refine lv_icmp_le (tgt := 129) hx hb dX4_gap_106 (by decide) (fun c106 => ?_) (fun c106 => ?_)
                              · have n106 : i ≤ a := (nI_leI (a := i) (b := a) (by omega) (by omega)).mp c106
                                have hgc : gC (c_hN S d t) (i + 1) = gC (c_hN S d t) a := (gC_n (by rw [g0, if_pos (by omega)])).trans gcc
                                rw [← hgc] at hl
                                refine lv_iload hx hb dX4_gap_129 (lv_at hl 0 rfl) ?_
                                refine lv_iconst (v := 1) hx hb dX4_gap_131 (by decide) ?_
                                refine lv_iadd hx hb dX4_gap_132 ?_
                                refine lv_topi (fun y9 e9 => ?_)
                                have e9 : y9 = nI (i + 1) := e9.trans (nI_add i 1)
                                subst e9
                                refine lv_istore (lv' := [(6, .int (nI (i + 1))), (7, .int (nI i)), (5, .int (nI (gC (c_hN S d t) (i + 1)))), (0, .ref (adr 30)), (1, .int (nI d)), (2, .int (nI t)), (3, .int (nI q)), (4, .int (nI u))]) hx hb dX4_gap_133 hl (by decide) rfl (fun ls hl => ?_)
                                refine lv_goto (tgt := 67) hx hb dX4_gap_135 (by decide) ?_
                                exact ih67 (i + 1) (by omega) (by omega) (gF_t hend) (by first | exact fiB_miss gn (gapB_c (fun h9 => n112 (gcc.symm.trans h9))) | exact fiB_miss gn (gapB_n (by rw [g0, if_pos (by omega)]))) ls (lv_sub hl [0, 2, 3, 4, 5, 6, 7] rfl)
                              · have n106 : ¬ i ≤ a := fun h7 => c106 ((nI_leI (a := i) (b := a) (by omega) (by omega)).mpr h7)
                                refine lv_iload hx hb dX4_gap_109 (lv_at hl 1 rfl) ?_
                                refine lv_iload_n hx hb dX4_gap_111 rfl (lv_at hl 6 rfl) ?_
                                refine lv_icmp_ne (tgt := 126) hx hb dX4_gap_112 (by decide) (fun c112 => ?_) (fun c112 => ?_)
                                · have n112 : ¬ (gC (c_hN S d t) a) = q := fun h7 => c112 ((nI_eq (a := (gC (c_hN S d t) a)) (b := q) (by omega) (by omega)).mpr h7)
                                  refine lv_iinc (v := nI (gC (c_hN S d t) (i + 1))) (lv' := [(5, .int (nI (gC (c_hN S d t) (i + 1)))), (7, .int (nI i)), (6, .int (nI a)), (0, .ref (adr 30)), (1, .int (nI d)), (2, .int (nI t)), (3, .int (nI q)), (4, .int (nI u))]) hx hb dX4_gap_126 hl (k := 1) rfl (by rw [gC_s hend (y := a) (by rw [g0, if_neg (by omega)]), gcc]; exact nI_1 _) (by decide) rfl (fun ls hl => ?_)
                                  refine lv_iload hx hb dX4_gap_129 (lv_at hl 1 rfl) ?_
                                  refine lv_iconst (v := 1) hx hb dX4_gap_131 (by decide) ?_
                                  refine lv_iadd hx hb dX4_gap_132 ?_
                                  refine lv_topi (fun y9 e9 => ?_)
                                  have e9 : y9 = nI (i + 1) := e9.trans (nI_add i 1)
                                  subst e9
                                  refine lv_istore (lv' := [(6, .int (nI (i + 1))), (5, .int (nI (gC (c_hN S d t) (i + 1)))), (7, .int (nI i)), (0, .ref (adr 30)), (1, .int (nI d)), (2, .int (nI t)), (3, .int (nI q)), (4, .int (nI u))]) hx hb dX4_gap_133 hl (by decide) rfl (fun ls hl => ?_)
                                  refine lv_goto (tgt := 67) hx hb dX4_gap_135 (by decide) ?_
                                  exact ih67 (i + 1) (by omega) (by omega) (gF_t hend) (by first | exact fiB_miss gn (gapB_c (fun h9 => n112 (gcc.symm.trans h9))) | exact fiB_miss gn (gapB_n (by rw [g0, if_pos (by omega)]))) ls (lv_sub hl [0, 1, 3, 4, 5, 6, 7] rfl)
                                · have n112 : (gC (c_hN S d t) a) = q := (nI_eq (a := (gC (c_hN S d t) a)) (b := q) (by omega) (by omega)).mp c112
                                  refine lv_bipush (v := 100) hx hb dX4_gap_115 (by decide) ?_
                                  refine lv_iload hx hb dX4_gap_117 (lv_at hl 2 rfl) ?_
                                  refine lv_imul hx hb dX4_gap_119 ?_
                                  refine lv_topi (fun y9 e9 => ?_)
                                  have e9 : y9 = nI (100 * a) := e9.trans (pk_mul 100 a)
                                  subst e9
                                  refine lv_iload hx hb dX4_gap_120 (lv_at hl 0 rfl) ?_
                                  refine lv_iadd hx hb dX4_gap_122 ?_
                                  refine lv_topi (fun y9 e9 => ?_)
                                  have e9 : y9 = nI ((100 * a) + i) := e9.trans (nI_add (100 * a) i)
                                  subst e9
                                  refine lv_iconst (v := 1) hx hb dX4_gap_123 (by decide) ?_
                                  refine lv_isub hx hb dX4_gap_124 ?_
                                  have hk : k_gap S (nI d) (nI t) (nI q) = 0 := by unfold k_gap; rw [n5, n12, decide_eq_true c16]; rfl
                                  exact W.iret (v := (nI ((100 * a) + i)) - 1) hx hb hr (fun u9 ht _ => ⟨(by rw [hk, if_pos rfl]; exact congrArg (fun z => Outcome.returned (some (Value.int z))) (by unfold r_gap; rw [nI_clamp (by omega), nI_clamp (by omega), nI_clamp (by omega)]; rw [gtop_s hu2 hu3 hab]; rw [gap_some (y := a) (fiB_hit gn (gapB_t hend (by rw [g0, if_neg (by omega)]) (gcc.trans n112)) (by omega)) (by rw [g0, if_neg (by omega)])]; obtain ⟨z, hz⟩ : ∃ z, 100 * a + i = z + 1 := ⟨100 * a + i - 1, by omega⟩; rw [hz]; exact nI_pred _)), F3, ⟨by rw [hk]; exact hR, h45⟩, by rw [ht]; exact hP, hS.F ht⟩) hS.2.2 dX4_gap_125
                            · have n93 : (c_hN S d t i) = false := bI_0.mp c93
                              refine lv_iinc (v := nI (i + 1)) (lv' := [(7, .int (nI (i + 1))), (5, .int (nI (gC (c_hN S d t) a))), (6, .int (nI a)), (0, .ref (adr 30)), (1, .int (nI d)), (2, .int (nI t)), (3, .int (nI q)), (4, .int (nI u))]) hx hb dX4_gap_96 hl (k := 0) rfl (nI_1 _) (by decide) rfl (fun ls hl => ?_)
                              refine lv_goto (tgt := 78) hx hb dX4_gap_99 (by decide) ?_
                              exact ih78 (i + 1) (by omega) (by omega) (by omega) (by rw [if_neg (by omega)]; show (if (c_hN S d t) i = true then none else some ((gF (c_hN S d t) i).getD i)) = some a; rw [n93, g0]; simp only [Bool.false_eq_true, if_false]; split; (rename_i q9; rw [q9]; rfl); rfl) ((gC_f n93).trans gcc) (fiB_miss gn (gapB_f n93)) ls (lv_sub hl [0, 1, 2, 3, 4, 5, 6, 7] rfl)
                      exact L78 (u + 1) a (by omega) (Nat.le_refl _) (by omega) (by rw [if_pos rfl]; exact ga) rfl gn ls (lv_sub hl [0, 2, 1, 3, 4, 5, 6, 7] rfl)
                exact L67 (u + 1 + 1) 0 (by omega) (by omega) rfl rfl ls (lv_sub hl [0, 1, 3, 4, 5, 6, 2] rfl)
              · have n52 : (c_hN S d t u) = false := bI_0.mp c52
                refine lv_iinc (v := mI u) (lv' := [(4, .int (mI u)), (0, .ref (adr 30)), (1, .int (nI d)), (2, .int (nI t)), (3, .int (nI q))]) hx hb dX4_gap_55 hl (k := 0) rfl rfl (by decide) rfl (fun ls hl => ?_)
                refine lv_goto (tgt := 39) hx hb dX4_gap_58 (by decide) ?_
                exact ih39 u (by omega) (by omega) (fun j h1 h2 => by rcases (show j = u ∨ u + 1 ≤ j by omega) with q9 | q9; (rw [q9]; exact n52); exact hab j q9 h2) ls (lv_sub hl [0, 1, 2, 3, 4] rfl)
        exact L39 (100 + 1) 100 (by omega) (by omega) (fun j h1 h2 => absurd h1 (by omega)) ls (lv_sub hl [0, 1, 2, 3, 4] rfl)
      · refine lv_iconst (v := 1) hx hb dX4_gap_19 (by decide) ?_
        refine lv_goto (tgt := 24) hx hb dX4_gap_20 (by decide) ?_
        refine lv_iconst (v := 0) hx hb dX4_gap_24 (by decide) ?_
        refine lv_iconst (v := 0) hx hb dX4_gap_25 (by decide) ?_
        refine lv_iconst (v := 0) hx hb dX4_gap_26 (by decide) ?_
        refine wn_wV (rest := []) hx hb hml hown hG hN hP hS (cX4_throwing_w hAd hn hV hR true false false false) (cwV 4 hG (gV g_557 g_559 gp_X4_throwing g_5 g_560) rfl rfl rfl (by decide +kernel) ⟨Nat.le_of_ble_eq_true rfl, Nat.le_of_ble_eq_true rfl⟩) (by omega) hM0 rfl rfl hl.1 rfl (Nat.le_of_ble_eq_true rfl) dX4_gap_27 ⟨Nat.le_of_ble_eq_true rfl, Nat.le_of_ble_eq_true rfl⟩ (fun F4 H locs hFF hP hS => ?_)
        obtain ⟨hR, fF⟩ := hFF
        have h45 : ∀ j, j < 30 ∨ 45 ≤ j → F4 j = E j := fun j hj => (fF j (by omega)).trans (h45 j hj)
        obtain ⟨hM0, hM1, hM2, hM3, hM4, hM5, hM6, hM7, hM8, hM9, hM10, hM11, hM12, hM13, hM14⟩ := id hR
        refine lv_if_eq (tgt := 35) hx hb dX4_gap_30 (by decide) (fun c30 => absurd c30 (by decide)) (fun c30 => ?_)
        refine lv_iconst (v := 0) hx hb dX4_gap_33 (by decide) ?_
        have hk : k_gap S dd tt kk = 1 := by unfold k_gap; first | (rw [n5]; rfl) | (rw [n12, Bool.and_false]; rfl) | (rw [decide_eq_false (show ¬ (0 : Int32) ≤ kk from fun h9 => c16 h9), Bool.and_false]; rfl)
        exact W.iret (v := 0) hx hb hr (fun u9 ht _ => ⟨(by rw [hk]; rfl), F4, ⟨by rw [hk]; exact hR, h45⟩, by rw [ht]; exact hP, hS.F ht⟩) hS.2.2 dX4_gap_34
