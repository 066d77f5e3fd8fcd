set_option maxHeartbeats 4000000 in
set_option maxRecDepth 100000 in
theorem cX4_batch_w {l : Launch} {D : va_G} {cA : Nat → ClassId} {adr : Nat → Nat} {n : Nat} {E : Nat → va_E} {lo : Nat} (hAd : wd_ad lo n adr) {S : CS} {th : Int32} (hn : 45 ≤ n) (hV : Inv S) (hR : RepM cA adr S th E) (dd : Int32) (on : Bool) : Met l yX4_batch (.code yX4_batch cX4_batch 6 (some .int) :: lw_G) ({ frames := 2, cells := 0, slots := 0, locals := 43 } : Room) (va_Pc [.ref (adr 30), .int dd, .int (bI on)] (wdU D (kty cA) adr n E)) (wq D lo adr n (some (.int (if k_bat S dd on = 0 then r_bat S dd on else 0))) (fun E2 => RepM cA adr (if k_bat S dd on = 0 then s_bat S dd on else S) (nI (k_bat S dd on)) E2 ∧ ∀ j, j < 30 ∨ 45 ≤ j → E2 j = E j)) 0 0 (fun q => lo ≤ q) := by
  refine Met.ofW (cc := cX4_batch) (maxL := 6) (ret := (some .int)) (by decide) rfl ?_
  intro p e s m args below meth c s₁ B hml hv
  obtain ⟨rfl, hP, hN⟩ := hv
  have hx := B.exec
  have hb := B.bytes
  have hr := B.returns
  have hG : ∀ w ∈ lw_G, w.before _ s = true := fun w h => atoms_spec (ws := _ :: lw_G) B.pre w (List.mem_cons_of_mem _ h)
  have hown : s.vm.findClass RX4 = some m.cls := findClass_of_methodNamed B.named
  have hlocks := B.notSynchronized
  have hK := hN.1
  have hS : va_S (fun q => lo ≤ q) s.heap s.heap [] := va_S.rf
  have hF : ∀ j, j ≠ 30 → E j = E j := fun j _ => rfl
  have hl := lv_entry ([.ref (adr 30), .int dd, .int (bI on)]) (n := 6) (Nat.le_of_ble_eq_true rfl)
  rw [lg_entry_eq]
  generalize (lg_sl ([.ref (adr 30), .int dd, .int (bI on)]) ++ List.replicate (6 - (lg_sl ([.ref (adr 30), .int dd, .int (bI on)])).length) Slot.unset).toArray = ls at hl ⊢
  have hl : lv_has ls 6 [(0, .ref (adr 30)), (1, .int dd), (2, .int (bI on))] := hl
  obtain ⟨hM0, hM1, hM2, hM3, hM4, hM5, hM6, hM7, hM8, hM9, hM10, hM11, hM12, hM13, hM14⟩ := id hR
  obtain ⟨hct, hnm, htd, hmk, hlf, hnt, hnu, hcn, hmz, hmm, hib, hmr, hrise⟩ := id hV
  have h45 : ∀ j, j < 30 ∨ 45 ≤ j → E j = E j := fun _ _ => rfl
  refine lv_iload_n hx hb dX4_batch_0 rfl (lv_at hl 1 rfl) ?_
  refine wn_rS (rest := []) hx hb hml hown hG (cX4_isDesk_r _) (cwS 1 hG (gS g_573 g_574 g_5 g_575) rfl rfl rfl (by decide +kernel) ⟨Nat.le_of_ble_eq_true rfl, Nat.le_of_ble_eq_true rfl⟩) rfl hl.1 rfl (Nat.le_of_ble_eq_true rfl) dX4_batch_1 ⟨Nat.le_of_ble_eq_true rfl, Nat.le_of_ble_eq_true rfl⟩ ?_
  refine lv_if_ne (tgt := 11) hx hb dX4_batch_4 (by decide) (fun c4 => ?_) (fun c4 => ?_)
  · have n4 : (inN dd 3) = true := bI_1.mp c4
    refine lv_iconst (v := 0) hx hb dX4_batch_11 (by decide) ?_
    obtain ⟨d, hd, rfl⟩ := inN_of n4 (by decide)
    refine lv_istore_n (lv' := [(3, .int 0), (0, .ref (adr 30)), (1, .int (nI d)), (2, .int (bI on))]) hx hb dX4_batch_12 rfl hl (by decide) rfl (fun ls hl => ?_)
    refine lv_aload_n hx hb dX4_batch_13 rfl (lv_at hl 1 rfl) ?_
    refine lv_iload_n hx hb dX4_batch_14 rfl (lv_at hl 0 rfl) ?_
    refine lv_iload_n hx hb dX4_batch_15 rfl (lv_at hl 0 rfl) ?_
    refine lv_if_ne (tgt := 41) hx hb dX4_batch_16 (by decide) (fun c16 => absurd (by decide) c16) (fun c16 => ?_)
    refine lv_aload_n hx hb dX4_batch_19 rfl (lv_at hl 1 rfl) ?_
    refine va_get (D := D) (ci := 4) (v := .ref (adr 44)) (C := RX4) (T := TX4) (N := 16) hx hb hG inG_X4 hown hK hP 30 (wl_at (by omega) hM0) rfl 15 (by decide) (hG _ g_508) (fun _ h9 => h9) rfl dX4_batch_20 ?_
    refine lv_iload_n hx hb dX4_batch_23 rfl (lv_at hl 0 rfl) ?_
    refine lv_if_eq (tgt := 31) hx hb dX4_batch_24 (by decide) (fun c24 => ?_) (fun c24 => absurd (by decide) c24)
    refine lv_iload_n hx hb dX4_batch_31 rfl (lv_at hl 2 rfl) ?_
    refine wn_zald (j := d) hx hb hK hP (by omega) hM14 (by omega) (by decide) dX4_batch_32 ?_
    refine lv_iload_n hx hb dX4_batch_33 rfl (lv_at hl 3 rfl) ?_
    refine lv_icmp_ne (tgt := 41) hx hb dX4_batch_34 (by decide) (fun c34 => ?_) (fun c34 => ?_)
    · have hon : ¬ c_ib S d = on := fun h9 => c34 (congrArg bI h9)
      refine lv_iconst (v := 0) hx hb dX4_batch_41 (by decide) ?_
      refine lv_iconst (v := 0) hx hb dX4_batch_42 (by decide) ?_
      refine lv_iconst (v := 0) hx hb dX4_batch_43 (by decide) ?_
      refine wn_wV (rest := []) hx hb hml hown hG hN hP hS (cX4_throwing_w hAd hn hV hR false false false false) (cwV 4 hG (gV g_557 g_559 gp_X4_throwing g_5 g_560) rfl rfl rfl (by decide +kernel) ⟨Nat.le_of_ble_eq_true rfl, Nat.le_of_ble_eq_true rfl⟩) (by omega) hM0 rfl rfl hl.1 rfl (Nat.le_of_ble_eq_true rfl) dX4_batch_44 ⟨Nat.le_of_ble_eq_true rfl, Nat.le_of_ble_eq_true rfl⟩ (fun F1 H locs hFF hP hS => ?_)
      obtain ⟨hR, fF⟩ := hFF
      have h45 : ∀ j, j < 30 ∨ 45 ≤ j → F1 j = E j := fun j hj => (fF j (by omega)).trans (h45 j hj)
      obtain ⟨hM0, hM1, hM2, hM3, hM4, hM5, hM6, hM7, hM8, hM9, hM10, hM11, hM12, hM13, hM14⟩ := id hR
      have hR : RepM cA adr S 0 F1 := hR
      refine lv_if_eq (tgt := 52) hx hb dX4_batch_47 (by decide) (fun c47 => ?_) (fun c47 => absurd (by decide) c47)
      refine lv_aload_n hx hb dX4_batch_52 rfl (lv_at hl 1 rfl) ?_
      refine va_get (D := D) (ci := 4) (v := .ref (adr 44)) (C := RX4) (T := TX4) (N := 16) hx hb hG inG_X4 hown hK hP 30 (wl_at (by omega) hM0) rfl 15 (by decide) (hG _ g_508) (fun _ h9 => h9) rfl dX4_batch_53 ?_
      refine lv_iload_n hx hb dX4_batch_56 rfl (lv_at hl 2 rfl) ?_
      refine lv_iload_n hx hb dX4_batch_57 rfl (lv_at hl 3 rfl) ?_
      refine wn_zast (b := on) (j := d) hx hb hK hAd hP hS (by omega) hM14 (by omega) (by decide) dX4_batch_58 (fun H locs hP hS => ?_)
      have hP := hP
      rw [show upd (fun j => bI (c_ib S j)) d (bI on) = fun j => bI ((upZ (c_ib S) d on) j) from upd_bI (c_ib S) d on] at hP
      obtain ⟨E2x, hE2x⟩ : ∃ z9, z9 = va_up F1 44 (.inl (cA 1, 3, .inl (fun j => bI ((upZ (c_ib S) d on) j)))) := ⟨_, rfl⟩
      have hP : va_P D kcl (wl adr n E2x) H := by rw [hE2x]; exact hP
      have hF9 : ∀ j, j ≠ 44 → E2x j = F1 j := fun j z9 => by rw [hE2x, va_up_ne _ _ z9]
      have h45 : ∀ j, j < 30 ∨ 45 ≤ j → E2x j = E j := fun j hj => (hF9 j (by omega)).trans (h45 j hj)
      have hR := repm_ib hR (E2 := E2x) (f := upZ (c_ib S) d on) (by rw [hE2x, va_up_self]) hF9
      obtain ⟨S2, hS2⟩ : ∃ z9, z9 = w_ib S (upZ (c_ib S) d on) := ⟨_, rfl⟩
      rw [← hS2] at hR
      have ectS2 : c_ct S2 = c_ct S := by rw [hS2]; rfl
      have emoS2 : c_mo S2 = c_mo S := by rw [hS2]; rfl
      have emtS2 : c_mt S2 = c_mt S := by rw [hS2]; rfl
      have emkS2 : c_mk S2 = c_mk S := by rw [hS2]; rfl
      obtain ⟨hM0, hM1, hM2, hM3, hM4, hM5, hM6, hM7, hM8, hM9, hM10, hM11, hM12, hM13, hM14⟩ := id hR
      refine lv_iconst (v := 0) hx hb dX4_batch_59 (by decide) ?_
      refine lv_istore (lv' := [(4, .int 0), (3, .int 0), (0, .ref (adr 30)), (1, .int (nI d)), (2, .int (bI on))]) hx hb dX4_batch_60 hl (by decide) rfl (fun ls hl => ?_)
      refine lv_iconst (v := 0) hx hb dX4_batch_62 (by decide) ?_
      refine lv_istore (lv' := [(5, .int 0), (4, .int 0), (3, .int 0), (0, .ref (adr 30)), (1, .int (nI d)), (2, .int (bI on))]) hx hb dX4_batch_63 hl (by decide) rfl (fun ls hl => ?_)
      have L65 : ∀ (f : Nat) (i : Nat), c_ct S - i < f → i ≤ c_ct S → ∀ ls : Array Slot, lv_has ls 6 [(5, .int (nI i)), (4, .int (nI (ctB (fun j => decide (c_mo S d j < 0)) i))), (0, .ref (adr 30)), (1, .int (nI d)), (2, .int (bI on))] → W p l e (headSpec (.code yX4_batch cX4_batch 6 (some .int) :: lw_G) ({ frames := 2, cells := 0, slots := 0, locals := 43 } : Room)).room s m [.ref (adr 30), .int (nI d), .int (bI on)].toArray below meth c H locs 0 0 (MQ below (wq D lo adr n (some (.int (if k_bat S (nI d) on = 0 then r_bat S (nI d) on else 0))) (fun E2 => RepM cA adr (if k_bat S (nI d) on = 0 then s_bat S (nI d) on else S) (nI (k_bat S (nI d) on)) E2 ∧ ∀ j, j < 30 ∨ 45 ≤ j → E2 j = E j)) [.ref (adr 30), .int (nI d), .int (bI on)].toArray s 0 0 (fun q => lo ≤ q)) (F0 m 65 ls []) := by
        intro f
        induction f with
        | zero => intro i h0; exact absurd h0 (by omega)
        | succ f ih65 =>
          intro i hf hi ls hl
          refine lv_iload hx hb dX4_batch_65 (lv_at hl 0 rfl) ?_
          refine lv_aload_n hx hb dX4_batch_67 rfl (lv_at hl 2 rfl) ?_
          refine va_get (D := D) (ci := 4) (v := .int (nI (c_ct S2))) (C := RX4) (T := TX4) (N := 16) hx hb hG inG_X4 hown hK hP 30 (wl_at (by omega) hM0) rfl 5 (by decide) (hG _ g_498) (fun _ h9 => h9) rfl dX4_batch_68 ?_
          refine lv_icmp_ge (tgt := 105) hx hb dX4_batch_71 (by decide) (fun c71 => ?_) (fun c71 => ?_)
          · have n71 : (c_ct S2) ≤ i := (nI_leI (a := (c_ct S2)) (b := i) (by omega) (by omega)).mp c71
            have b9 := ctB_le (P := fun j => decide (c_mo S d j < 0)) (n := i)
            refine lv_iload hx hb dX4_batch_105 (lv_at hl 1 rfl) ?_
            refine lv_if_le (tgt := 120) hx hb dX4_batch_107 (by decide) (fun c107 => ?_) (fun c107 => ?_)
            · have n107 : (ctB (fun j => decide (c_mo S d j < 0)) i) ≤ 0 := (nI_leI (a := (ctB (fun j => decide (c_mo S d j < 0)) i)) (b := 0) (by omega) (by omega)).mp c107
              have hw9 : ctB (fun j => decide (c_mo S d j < 0)) (c_ct S) = 0 := by rw [show c_ct S = i from by omega]; omega
              refine lv_iconst (v := 0) hx hb dX4_batch_120 (by decide) ?_
              refine lv_istore (lv' := [(5, .int 0), (4, .int (nI (ctB (fun j => decide (c_mo S d j < 0)) i))), (0, .ref (adr 30)), (1, .int (nI d)), (2, .int (bI on))]) hx hb dX4_batch_121 hl (by decide) rfl (fun ls hl => ?_)
              have L123 : ∀ (f : Nat) (i : Nat) (E1 : Nat → va_E) (H : Heap) (locs : List Loc), c_ct S - i < f → i ≤ c_ct S → RepM cA adr (w_mo S2 (va_up (c_mo S2) d (bF (c_mo S2 d) (c_mt S2 d) i))) 0 E1 → (∀ j, j < 30 ∨ 45 ≤ j → E1 j = E j) → va_P D kcl (wl adr n E1) H → va_S (fun q => lo ≤ q) s.heap H locs → ∀ ls : Array Slot, lv_has ls 6 [(5, .int (nI i)), (0, .ref (adr 30)), (1, .int (nI d))] → W p l e (headSpec (.code yX4_batch cX4_batch 6 (some .int) :: lw_G) ({ frames := 2, cells := 0, slots := 0, locals := 43 } : Room)).room s m [.ref (adr 30), .int (nI d), .int (bI on)].toArray below meth c H locs 0 0 (MQ below (wq D lo adr n (some (.int (if k_bat S (nI d) on = 0 then r_bat S (nI d) on else 0))) (fun E2 => RepM cA adr (if k_bat S (nI d) on = 0 then s_bat S (nI d) on else S) (nI (k_bat S (nI d) on)) E2 ∧ ∀ j, j < 30 ∨ 45 ≤ j → E2 j = E j)) [.ref (adr 30), .int (nI d), .int (bI on)].toArray s 0 0 (fun q => lo ≤ q)) (F0 m 123 ls []) := by
                intro f
                induction f with
                | zero => intro i E1 H locs h0; exact absurd h0 (by omega)
                | succ f ih123 =>
                  intro i E1 H locs hf hi hR h45 hP hS ls hl
                  obtain ⟨hM0, hM1, hM2, hM3, hM4, hM5, hM6, hM7, hM8, hM9, hM10, hM11, hM12, hM13, hM14⟩ := id hR
                  have ect9 : c_ct (w_mo S2 (va_up (c_mo S2) d (bF (c_mo S2 d) (c_mt S2 d) i))) = c_ct S2 := rfl
                  refine lv_iload hx hb dX4_batch_123 (lv_at hl 0 rfl) ?_
                  refine lv_aload_n hx hb dX4_batch_125 rfl (lv_at hl 1 rfl) ?_
                  refine va_get (D := D) (ci := 4) (v := .int (nI (c_ct (w_mo S2 (va_up (c_mo S2) d (bF (c_mo S2 d) (c_mt S2 d) i)))))) (C := RX4) (T := TX4) (N := 16) hx hb hG inG_X4 hown hK hP 30 (wl_at (by omega) hM0) rfl 5 (by decide) (hG _ g_498) (fun _ h9 => h9) rfl dX4_batch_126 ?_
                  refine lv_icmp_ge (tgt := 171) hx hb dX4_batch_129 (by decide) (fun c129 => ?_) (fun c129 => ?_)
                  · have n129 : (c_ct (w_mo S2 (va_up (c_mo S2) d (bF (c_mo S2 d) (c_mt S2 d) i)))) ≤ i := (nI_leI (a := (c_ct (w_mo S2 (va_up (c_mo S2) d (bF (c_mo S2 d) (c_mt S2 d) i))))) (b := i) (by omega) (by omega)).mp c129
                    have hi9 : i = c_ct S := by omega
                    refine lv_aload_n hx hb dX4_batch_171 rfl (lv_at hl 1 rfl) ?_
                    refine va_get (D := D) (ci := 4) (v := .ref (adr 43)) (C := RX4) (T := TX4) (N := 16) hx hb hG inG_X4 hown hK hP 30 (wl_at (by omega) hM0) rfl 14 (by decide) (hG _ g_507) (fun _ h9 => h9) rfl dX4_batch_172 ?_
                    refine lv_iload_n hx hb dX4_batch_175 rfl (lv_at hl 2 rfl) ?_
                    refine wn_iald (j := d) hx hb hK hP (by omega) hM13 (by omega) (by decide) dX4_batch_176 ?_
                    have hk : k_bat S (nI d) on = 0 := by unfold k_bat; rw [n4, nI_clamp (by omega)]; simp only [if_true]; rw [if_neg hon]
                    exact W.iret (v := (c_mt (w_mo S2 (va_up (c_mo S2) d (bF (c_mo S2 d) (c_mt S2 d) i)))) d) hx hb hr (fun u9 ht _ => ⟨(by rw [hk, if_pos rfl]; exact congrArg (fun z => Outcome.returned (some (Value.int z))) (by unfold r_bat; rw [nI_clamp (by omega)]; rw [hS2]; exact bat_mt0 hV hd hon hw9)), E1, ⟨by rw [hk]; exact (by rw [hi9, hS2] at hR; exact bat_fin0 hV hd hon hw9 hR), h45⟩, by rw [ht]; exact hP, hS.F ht⟩) hS.2.2 dX4_batch_177
                  · have n129 : ¬ (c_ct (w_mo S2 (va_up (c_mo S2) d (bF (c_mo S2 d) (c_mt S2 d) i)))) ≤ i := fun h7 => c129 ((nI_leI (a := (c_ct (w_mo S2 (va_up (c_mo S2) d (bF (c_mo S2 d) (c_mt S2 d) i))))) (b := i) (by omega) (by omega)).mpr h7)
                    have e144 : c_mo (w_mo S2 (va_up (c_mo S2) d (bF (c_mo S2 d) (c_mt S2 d) i))) d i = c_mo S2 d i := by show va_up (c_mo S2) d (bF (c_mo S2 d) (c_mt S2 d) i) d i = _; rw [va_up_self]; exact bF_at
                    refine lv_aload_n hx hb dX4_batch_132 rfl (lv_at hl 1 rfl) ?_
                    refine va_get (D := D) (ci := 4) (v := .ref (adr 42)) (C := RX4) (T := TX4) (N := 16) hx hb hG inG_X4 hown hK hP 30 (wl_at (by omega) hM0) rfl 13 (by decide) (hG _ g_506) (fun _ h9 => h9) rfl dX4_batch_133 ?_
                    refine lv_bipush (v := 120) hx hb dX4_batch_136 (by decide) ?_
                    refine lv_iload_n hx hb dX4_batch_138 rfl (lv_at hl 2 rfl) ?_
                    refine lv_imul hx hb dX4_batch_139 ?_
                    refine lv_topi (fun y9 e9 => ?_)
                    have e9 : y9 = nI (120 * d) := e9.trans (pk_mul 120 d)
                    subst e9
                    refine lv_iload hx hb dX4_batch_140 (lv_at hl 0 rfl) ?_
                    refine lv_iadd hx hb dX4_batch_142 ?_
                    refine lv_topi (fun y9 e9 => ?_)
                    have e9 : y9 = nI ((120 * d) + i) := e9.trans (nI_add (120 * d) i)
                    subst e9
                    refine wn_ialde (j := ((120 * d) + i)) (v := c_mo (w_mo S2 (va_up (c_mo S2) d (bF (c_mo S2 d) (c_mt S2 d) i))) d i) hx hb hK hP (by omega) hM12 (by omega) (by decide) (fl_at (c_mo (w_mo S2 (va_up (c_mo S2) d (bF (c_mo S2 d) (c_mt S2 d) i)))) (by omega)) dX4_batch_143 ?_
                    refine lv_if_ge (tgt := 165) hx hb dX4_batch_144 (by decide) (fun c144 => ?_) (fun c144 => ?_)
                    · rw [e144] at c144
                      refine lv_iinc (v := nI (i + 1)) (lv' := [(5, .int (nI (i + 1))), (0, .ref (adr 30)), (1, .int (nI d))]) hx hb dX4_batch_165 hl (k := 0) rfl (nI_1 _) (by decide) rfl (fun ls hl => ?_)
                      refine lv_goto (tgt := 123) hx hb dX4_batch_168 (by decide) ?_
                      exact ih123 (i + 1) E1 _ _ (by omega) (by omega) (by rw [bF_mis (Int32.not_lt.mpr c144)]; exact hR) h45 hP hS ls (lv_sub hl [0, 1, 2] rfl)
                    · rw [e144] at c144
                      refine lv_aload_n hx hb dX4_batch_147 rfl (lv_at hl 1 rfl) ?_
                      refine va_get (D := D) (ci := 4) (v := .ref (adr 42)) (C := RX4) (T := TX4) (N := 16) hx hb hG inG_X4 hown hK hP 30 (wl_at (by omega) hM0) rfl 13 (by decide) (hG _ g_506) (fun _ h9 => h9) rfl dX4_batch_148 ?_
                      refine lv_bipush (v := 120) hx hb dX4_batch_151 (by decide) ?_
                      refine lv_iload_n hx hb dX4_batch_153 rfl (lv_at hl 2 rfl) ?_
                      refine lv_imul hx hb dX4_batch_154 ?_
                      refine lv_topi (fun y9 e9 => ?_)
                      have e9 : y9 = nI (120 * d) := e9.trans (pk_mul 120 d)
                      subst e9
                      refine lv_iload hx hb dX4_batch_155 (lv_at hl 0 rfl) ?_
                      refine lv_iadd hx hb dX4_batch_157 ?_
                      refine lv_topi (fun y9 e9 => ?_)
                      have e9 : y9 = nI ((120 * d) + i) := e9.trans (nI_add (120 * d) i)
                      subst e9
                      refine lv_aload_n hx hb dX4_batch_158 rfl (lv_at hl 1 rfl) ?_
                      refine va_get (D := D) (ci := 4) (v := .ref (adr 43)) (C := RX4) (T := TX4) (N := 16) hx hb hG inG_X4 hown hK hP 30 (wl_at (by omega) hM0) rfl 14 (by decide) (hG _ g_507) (fun _ h9 => h9) rfl dX4_batch_159 ?_
                      refine lv_iload_n hx hb dX4_batch_162 rfl (lv_at hl 2 rfl) ?_
                      refine wn_iald (j := d) hx hb hK hP (by omega) hM13 (by omega) (by decide) dX4_batch_163 ?_
                      refine wn_iast (j := ((120 * d) + i)) hx hb hK hAd hP hS (by omega) hM12 (by omega) (by decide) dX4_batch_164 (fun H locs hP hS => ?_)
                      rw [fl_upd (c_mo (w_mo S2 (va_up (c_mo S2) d (bF (c_mo S2 d) (c_mt S2 d) i)))) _ (by omega)] at hP
                      obtain ⟨E3x, hE3x⟩ : ∃ z9, z9 = va_up E1 42 (.inl (cA 0, 360, .inl (fun y => (va_up (c_mo (w_mo S2 (va_up (c_mo S2) d (bF (c_mo S2 d) (c_mt S2 d) i)))) d (upd (c_mo (w_mo S2 (va_up (c_mo S2) d (bF (c_mo S2 d) (c_mt S2 d) i))) d) i ((c_mt (w_mo S2 (va_up (c_mo S2) d (bF (c_mo S2 d) (c_mt S2 d) i)))) d))) (y / 120) (y % 120)))) := ⟨_, rfl⟩
                      have hP : va_P D kcl (wl adr n E3x) H := by rw [hE3x]; exact hP
                      have hF9 : ∀ j, j ≠ 42 → E3x j = E1 j := fun j z9 => by rw [hE3x, va_up_ne _ _ z9]
                      have h45 : ∀ j, j < 30 ∨ 45 ≤ j → E3x j = E j := fun j hj => (hF9 j (by omega)).trans (h45 j hj)
                      have hR := repm_mo hR (E2 := E3x) (f := va_up (c_mo (w_mo S2 (va_up (c_mo S2) d (bF (c_mo S2 d) (c_mt S2 d) i)))) d (upd (c_mo (w_mo S2 (va_up (c_mo S2) d (bF (c_mo S2 d) (c_mt S2 d) i))) d) i ((c_mt (w_mo S2 (va_up (c_mo S2) d (bF (c_mo S2 d) (c_mt S2 d) i)))) d))) (by rw [hE3x, va_up_self]) hF9
                      obtain ⟨S3, hS3⟩ : ∃ z9, z9 = w_mo (w_mo S2 (va_up (c_mo S2) d (bF (c_mo S2 d) (c_mt S2 d) i))) (va_up (c_mo (w_mo S2 (va_up (c_mo S2) d (bF (c_mo S2 d) (c_mt S2 d) i)))) d (upd (c_mo (w_mo S2 (va_up (c_mo S2) d (bF (c_mo S2 d) (c_mt S2 d) i))) d) i ((c_mt (w_mo S2 (va_up (c_mo S2) d (bF (c_mo S2 d) (c_mt S2 d) i)))) d))) := ⟨_, rfl⟩
                      rw [← hS3] at hR
                      have ectS3 : c_ct S3 = c_ct (w_mo S2 (va_up (c_mo S2) d (bF (c_mo S2 d) (c_mt S2 d) i))) := by rw [hS3]; rfl
                      have emtS3 : c_mt S3 = c_mt (w_mo S2 (va_up (c_mo S2) d (bF (c_mo S2 d) (c_mt S2 d) i))) := by rw [hS3]; rfl
                      have emkS3 : c_mk S3 = c_mk (w_mo S2 (va_up (c_mo S2) d (bF (c_mo S2 d) (c_mt S2 d) i))) := by rw [hS3]; rfl
                      obtain ⟨hM0, hM1, hM2, hM3, hM4, hM5, hM6, hM7, hM8, hM9, hM10, hM11, hM12, hM13, hM14⟩ := id hR
                      refine lv_iinc (v := nI (i + 1)) (lv' := [(5, .int (nI (i + 1))), (0, .ref (adr 30)), (1, .int (nI d))]) hx hb dX4_batch_165 hl (k := 0) rfl (nI_1 _) (by decide) rfl (fun ls hl => ?_)
                      refine lv_goto (tgt := 123) hx hb dX4_batch_168 (by decide) ?_
                      exact ih123 (i + 1) E3x _ _ (by omega) (by omega) (by rw [hS3] at hR; rw [← bF_hit (X := c_mt S2 d) (Int32.not_le.mp c144)]; exact (show w_mo (w_mo S2 (va_up (c_mo S2) d (bF (c_mo S2 d) (c_mt S2 d) i))) (va_up (c_mo (w_mo S2 (va_up (c_mo S2) d (bF (c_mo S2 d) (c_mt S2 d) i)))) d (upd (c_mo (w_mo S2 (va_up (c_mo S2) d (bF (c_mo S2 d) (c_mt S2 d) i))) d) i (c_mt (w_mo S2 (va_up (c_mo S2) d (bF (c_mo S2 d) (c_mt S2 d) i))) d))) = w_mo S2 (va_up (c_mo S2) d (upd (bF (c_mo S2 d) (c_mt S2 d) i) i (c_mt S2 d))) from by show w_mo S2 (va_up (va_up (c_mo S2) d (bF (c_mo S2 d) (c_mt S2 d) i)) d (upd (va_up (c_mo S2) d (bF (c_mo S2 d) (c_mt S2 d) i) d) i (c_mt S2 d))) = _; rw [va_up_up, va_up_self]) ▸ hR) h45 hP hS ls (lv_sub hl [0, 1, 2] rfl)
              exact L123 (c_ct S + 1) 0 E2x _ _ (by omega) (by omega) (by rw [bF_0, va_up_id]; exact hR) h45 hP hS ls (lv_sub hl [0, 2, 3] rfl)
            · have n107 : ¬ (ctB (fun j => decide (c_mo S d j < 0)) i) ≤ 0 := fun h7 => c107 ((nI_leI (a := (ctB (fun j => decide (c_mo S d j < 0)) i)) (b := 0) (by omega) (by omega)).mpr h7)
              have hw9 : ¬ ctB (fun j => decide (c_mo S d j < 0)) (c_ct S) = 0 := by rw [show c_ct S = i from by omega]; omega
              refine lv_aload_n hx hb dX4_batch_110 rfl (lv_at hl 2 rfl) ?_
              refine va_get (D := D) (ci := 4) (v := .ref (adr 43)) (C := RX4) (T := TX4) (N := 16) hx hb hG inG_X4 hown hK hP 30 (wl_at (by omega) hM0) rfl 14 (by decide) (hG _ g_507) (fun _ h9 => h9) rfl dX4_batch_111 ?_
              refine lv_iload_n hx hb dX4_batch_114 rfl (lv_at hl 3 rfl) ?_
              refine lv_dup2_11 hx hb dX4_batch_115 rfl rfl ?_
              refine wn_iald (j := d) hx hb hK hP (by omega) hM13 (by omega) (by decide) dX4_batch_116 ?_
              refine lv_iconst (v := 1) hx hb dX4_batch_117 (by decide) ?_
              refine lv_iadd hx hb dX4_batch_118 ?_
              refine wn_iast (j := d) hx hb hK hAd hP hS (by omega) hM13 (by omega) (by decide) dX4_batch_119 (fun H locs hP hS => ?_)
              obtain ⟨E4x, hE4x⟩ : ∃ z9, z9 = va_up E2x 43 (.inl (cA 0, 3, .inl (upd (c_mt S2) d (((c_mt S2) d) + 1)))) := ⟨_, rfl⟩
              have hP : va_P D kcl (wl adr n E4x) H := by rw [hE4x]; exact hP
              have hF9 : ∀ j, j ≠ 43 → E4x j = E2x j := fun j z9 => by rw [hE4x, va_up_ne _ _ z9]
              have h45 : ∀ j, j < 30 ∨ 45 ≤ j → E4x j = E j := fun j hj => (hF9 j (by omega)).trans (h45 j hj)
              have hR := repm_mt hR (E2 := E4x) (f := upd (c_mt S2) d (((c_mt S2) d) + 1)) (by rw [hE4x, va_up_self]) hF9
              obtain ⟨S4, hS4⟩ : ∃ z9, z9 = w_mt S2 (upd (c_mt S2) d (((c_mt S2) d) + 1)) := ⟨_, rfl⟩
              rw [← hS4] at hR
              have ectS4 : c_ct S4 = c_ct S2 := by rw [hS4]; rfl
              have emoS4 : c_mo S4 = c_mo S2 := by rw [hS4]; rfl
              have emkS4 : c_mk S4 = c_mk S2 := by rw [hS4]; rfl
              obtain ⟨hM0, hM1, hM2, hM3, hM4, hM5, hM6, hM7, hM8, hM9, hM10, hM11, hM12, hM13, hM14⟩ := id hR
              refine lv_iconst (v := 0) hx hb dX4_batch_120 (by decide) ?_
              refine lv_istore (lv' := [(5, .int 0), (4, .int (nI (ctB (fun j => decide (c_mo S d j < 0)) i))), (0, .ref (adr 30)), (1, .int (nI d)), (2, .int (bI on))]) hx hb dX4_batch_121 hl (by decide) rfl (fun ls hl => ?_)
              have L123 : ∀ (f : Nat) (i : Nat) (E1 : Nat → va_E) (H : Heap) (locs : List Loc), c_ct S - i < f → i ≤ c_ct S → RepM cA adr (w_mo S4 (va_up (c_mo S4) d (bF (c_mo S4 d) (c_mt S4 d) i))) 0 E1 → (∀ j, j < 30 ∨ 45 ≤ j → E1 j = E j) → va_P D kcl (wl adr n E1) H → va_S (fun q => lo ≤ q) s.heap H locs → ∀ ls : Array Slot, lv_has ls 6 [(5, .int (nI i)), (0, .ref (adr 30)), (1, .int (nI d))] → W p l e (headSpec (.code yX4_batch cX4_batch 6 (some .int) :: lw_G) ({ frames := 2, cells := 0, slots := 0, locals := 43 } : Room)).room s m [.ref (adr 30), .int (nI d), .int (bI on)].toArray below meth c H locs 0 0 (MQ below (wq D lo adr n (some (.int (if k_bat S (nI d) on = 0 then r_bat S (nI d) on else 0))) (fun E2 => RepM cA adr (if k_bat S (nI d) on = 0 then s_bat S (nI d) on else S) (nI (k_bat S (nI d) on)) E2 ∧ ∀ j, j < 30 ∨ 45 ≤ j → E2 j = E j)) [.ref (adr 30), .int (nI d), .int (bI on)].toArray s 0 0 (fun q => lo ≤ q)) (F0 m 123 ls []) := by
                intro f
                induction f with
                | zero => intro i E1 H locs h0; exact absurd h0 (by omega)
                | succ f ih123 =>
                  intro i E1 H locs hf hi hR h45 hP hS ls hl
                  obtain ⟨hM0, hM1, hM2, hM3, hM4, hM5, hM6, hM7, hM8, hM9, hM10, hM11, hM12, hM13, hM14⟩ := id hR
                  have ect9 : c_ct (w_mo S4 (va_up (c_mo S4) d (bF (c_mo S4 d) (c_mt S4 d) i))) = c_ct S4 := rfl
                  refine lv_iload hx hb dX4_batch_123 (lv_at hl 0 rfl) ?_
                  refine lv_aload_n hx hb dX4_batch_125 rfl (lv_at hl 1 rfl) ?_
                  refine va_get (D := D) (ci := 4) (v := .int (nI (c_ct (w_mo S4 (va_up (c_mo S4) d (bF (c_mo S4 d) (c_mt S4 d) i)))))) (C := RX4) (T := TX4) (N := 16) hx hb hG inG_X4 hown hK hP 30 (wl_at (by omega) hM0) rfl 5 (by decide) (hG _ g_498) (fun _ h9 => h9) rfl dX4_batch_126 ?_
                  refine lv_icmp_ge (tgt := 171) hx hb dX4_batch_129 (by decide) (fun c129 => ?_) (fun c129 => ?_)
                  · have n129 : (c_ct (w_mo S4 (va_up (c_mo S4) d (bF (c_mo S4 d) (c_mt S4 d) i)))) ≤ i := (nI_leI (a := (c_ct (w_mo S4 (va_up (c_mo S4) d (bF (c_mo S4 d) (c_mt S4 d) i))))) (b := i) (by omega) (by omega)).mp c129
                    have hi9 : i = c_ct S := by omega
                    refine lv_aload_n hx hb dX4_batch_171 rfl (lv_at hl 1 rfl) ?_
                    refine va_get (D := D) (ci := 4) (v := .ref (adr 43)) (C := RX4) (T := TX4) (N := 16) hx hb hG inG_X4 hown hK hP 30 (wl_at (by omega) hM0) rfl 14 (by decide) (hG _ g_507) (fun _ h9 => h9) rfl dX4_batch_172 ?_
                    refine lv_iload_n hx hb dX4_batch_175 rfl (lv_at hl 2 rfl) ?_
                    refine wn_iald (j := d) hx hb hK hP (by omega) hM13 (by omega) (by decide) dX4_batch_176 ?_
                    have hk : k_bat S (nI d) on = 0 := by unfold k_bat; rw [n4, nI_clamp (by omega)]; simp only [if_true]; rw [if_neg hon]
                    exact W.iret (v := (c_mt (w_mo S4 (va_up (c_mo S4) d (bF (c_mo S4 d) (c_mt S4 d) i)))) d) hx hb hr (fun u9 ht _ => ⟨(by rw [hk, if_pos rfl]; exact congrArg (fun z => Outcome.returned (some (Value.int z))) (by unfold r_bat; rw [nI_clamp (by omega)]; rw [hS4, hS2]; exact bat_mt1 hV hd hon hw9)), E1, ⟨by rw [hk]; exact (by rw [hi9, hS4, hS2] at hR; exact bat_fin1 pk_us hV hd hon hw9 hR), h45⟩, by rw [ht]; exact hP, hS.F ht⟩) hS.2.2 dX4_batch_177
                  · have n129 : ¬ (c_ct (w_mo S4 (va_up (c_mo S4) d (bF (c_mo S4 d) (c_mt S4 d) i)))) ≤ i := fun h7 => c129 ((nI_leI (a := (c_ct (w_mo S4 (va_up (c_mo S4) d (bF (c_mo S4 d) (c_mt S4 d) i))))) (b := i) (by omega) (by omega)).mpr h7)
                    have e144 : c_mo (w_mo S4 (va_up (c_mo S4) d (bF (c_mo S4 d) (c_mt S4 d) i))) d i = c_mo S4 d i := by show va_up (c_mo S4) d (bF (c_mo S4 d) (c_mt S4 d) i) d i = _; rw [va_up_self]; exact bF_at
                    refine lv_aload_n hx hb dX4_batch_132 rfl (lv_at hl 1 rfl) ?_
                    refine va_get (D := D) (ci := 4) (v := .ref (adr 42)) (C := RX4) (T := TX4) (N := 16) hx hb hG inG_X4 hown hK hP 30 (wl_at (by omega) hM0) rfl 13 (by decide) (hG _ g_506) (fun _ h9 => h9) rfl dX4_batch_133 ?_
                    refine lv_bipush (v := 120) hx hb dX4_batch_136 (by decide) ?_
                    refine lv_iload_n hx hb dX4_batch_138 rfl (lv_at hl 2 rfl) ?_
                    refine lv_imul hx hb dX4_batch_139 ?_
                    refine lv_topi (fun y9 e9 => ?_)
                    have e9 : y9 = nI (120 * d) := e9.trans (pk_mul 120 d)
                    subst e9
                    refine lv_iload hx hb dX4_batch_140 (lv_at hl 0 rfl) ?_
                    refine lv_iadd hx hb dX4_batch_142 ?_
                    refine lv_topi (fun y9 e9 => ?_)
                    have e9 : y9 = nI ((120 * d) + i) := e9.trans (nI_add (120 * d) i)
                    subst e9
                    refine wn_ialde (j := ((120 * d) + i)) (v := c_mo (w_mo S4 (va_up (c_mo S4) d (bF (c_mo S4 d) (c_mt S4 d) i))) d i) hx hb hK hP (by omega) hM12 (by omega) (by decide) (fl_at (c_mo (w_mo S4 (va_up (c_mo S4) d (bF (c_mo S4 d) (c_mt S4 d) i)))) (by omega)) dX4_batch_143 ?_
                    refine lv_if_ge (tgt := 165) hx hb dX4_batch_144 (by decide) (fun c144 => ?_) (fun c144 => ?_)
                    · rw [e144] at c144
                      refine lv_iinc (v := nI (i + 1)) (lv' := [(5, .int (nI (i + 1))), (0, .ref (adr 30)), (1, .int (nI d))]) hx hb dX4_batch_165 hl (k := 0) rfl (nI_1 _) (by decide) rfl (fun ls hl => ?_)
                      refine lv_goto (tgt := 123) hx hb dX4_batch_168 (by decide) ?_
                      exact ih123 (i + 1) E1 _ _ (by omega) (by omega) (by rw [bF_mis (Int32.not_lt.mpr c144)]; exact hR) h45 hP hS ls (lv_sub hl [0, 1, 2] rfl)
                    · rw [e144] at c144
                      refine lv_aload_n hx hb dX4_batch_147 rfl (lv_at hl 1 rfl) ?_
                      refine va_get (D := D) (ci := 4) (v := .ref (adr 42)) (C := RX4) (T := TX4) (N := 16) hx hb hG inG_X4 hown hK hP 30 (wl_at (by omega) hM0) rfl 13 (by decide) (hG _ g_506) (fun _ h9 => h9) rfl dX4_batch_148 ?_
                      refine lv_bipush (v := 120) hx hb dX4_batch_151 (by decide) ?_
                      refine lv_iload_n hx hb dX4_batch_153 rfl (lv_at hl 2 rfl) ?_
                      refine lv_imul hx hb dX4_batch_154 ?_
                      refine lv_topi (fun y9 e9 => ?_)
                      have e9 : y9 = nI (120 * d) := e9.trans (pk_mul 120 d)
                      subst e9
                      refine lv_iload hx hb dX4_batch_155 (lv_at hl 0 rfl) ?_
                      refine lv_iadd hx hb dX4_batch_157 ?_
                      refine lv_topi (fun y9 e9 => ?_)
                      have e9 : y9 = nI ((120 * d) + i) := e9.trans (nI_add (120 * d) i)
                      subst e9
                      refine lv_aload_n hx hb dX4_batch_158 rfl (lv_at hl 1 rfl) ?_
                      refine va_get (D := D) (ci := 4) (v := .ref (adr 43)) (C := RX4) (T := TX4) (N := 16) hx hb hG inG_X4 hown hK hP 30 (wl_at (by omega) hM0) rfl 14 (by decide) (hG _ g_507) (fun _ h9 => h9) rfl dX4_batch_159 ?_
                      refine lv_iload_n hx hb dX4_batch_162 rfl (lv_at hl 2 rfl) ?_
                      refine wn_iald (j := d) hx hb hK hP (by omega) hM13 (by omega) (by decide) dX4_batch_163 ?_
                      refine wn_iast (j := ((120 * d) + i)) hx hb hK hAd hP hS (by omega) hM12 (by omega) (by decide) dX4_batch_164 (fun H locs hP hS => ?_)
                      rw [fl_upd (c_mo (w_mo S4 (va_up (c_mo S4) d (bF (c_mo S4 d) (c_mt S4 d) i)))) _ (by omega)] at hP
                      obtain ⟨E5x, hE5x⟩ : ∃ z9, z9 = va_up E1 42 (.inl (cA 0, 360, .inl (fun y => (va_up (c_mo (w_mo S4 (va_up (c_mo S4) d (bF (c_mo S4 d) (c_mt S4 d) i)))) d (upd (c_mo (w_mo S4 (va_up (c_mo S4) d (bF (c_mo S4 d) (c_mt S4 d) i))) d) i ((c_mt (w_mo S4 (va_up (c_mo S4) d (bF (c_mo S4 d) (c_mt S4 d) i)))) d))) (y / 120) (y % 120)))) := ⟨_, rfl⟩
                      have hP : va_P D kcl (wl adr n E5x) H := by rw [hE5x]; exact hP
                      have hF9 : ∀ j, j ≠ 42 → E5x j = E1 j := fun j z9 => by rw [hE5x, va_up_ne _ _ z9]
                      have h45 : ∀ j, j < 30 ∨ 45 ≤ j → E5x j = E j := fun j hj => (hF9 j (by omega)).trans (h45 j hj)
                      have hR := repm_mo hR (E2 := E5x) (f := va_up (c_mo (w_mo S4 (va_up (c_mo S4) d (bF (c_mo S4 d) (c_mt S4 d) i)))) d (upd (c_mo (w_mo S4 (va_up (c_mo S4) d (bF (c_mo S4 d) (c_mt S4 d) i))) d) i ((c_mt (w_mo S4 (va_up (c_mo S4) d (bF (c_mo S4 d) (c_mt S4 d) i)))) d))) (by rw [hE5x, va_up_self]) hF9
                      obtain ⟨S5, hS5⟩ : ∃ z9, z9 = w_mo (w_mo S4 (va_up (c_mo S4) d (bF (c_mo S4 d) (c_mt S4 d) i))) (va_up (c_mo (w_mo S4 (va_up (c_mo S4) d (bF (c_mo S4 d) (c_mt S4 d) i)))) d (upd (c_mo (w_mo S4 (va_up (c_mo S4) d (bF (c_mo S4 d) (c_mt S4 d) i))) d) i ((c_mt (w_mo S4 (va_up (c_mo S4) d (bF (c_mo S4 d) (c_mt S4 d) i)))) d))) := ⟨_, rfl⟩
                      rw [← hS5] at hR
                      have ectS5 : c_ct S5 = c_ct (w_mo S4 (va_up (c_mo S4) d (bF (c_mo S4 d) (c_mt S4 d) i))) := by rw [hS5]; rfl
                      have emtS5 : c_mt S5 = c_mt (w_mo S4 (va_up (c_mo S4) d (bF (c_mo S4 d) (c_mt S4 d) i))) := by rw [hS5]; rfl
                      have emkS5 : c_mk S5 = c_mk (w_mo S4 (va_up (c_mo S4) d (bF (c_mo S4 d) (c_mt S4 d) i))) := by rw [hS5]; rfl
                      obtain ⟨hM0, hM1, hM2, hM3, hM4, hM5, hM6, hM7, hM8, hM9, hM10, hM11, hM12, hM13, hM14⟩ := id hR
                      refine lv_iinc (v := nI (i + 1)) (lv' := [(5, .int (nI (i + 1))), (0, .ref (adr 30)), (1, .int (nI d))]) hx hb dX4_batch_165 hl (k := 0) rfl (nI_1 _) (by decide) rfl (fun ls hl => ?_)
                      refine lv_goto (tgt := 123) hx hb dX4_batch_168 (by decide) ?_
                      exact ih123 (i + 1) E5x _ _ (by omega) (by omega) (by rw [hS5] at hR; rw [← bF_hit (X := c_mt S4 d) (Int32.not_le.mp c144)]; exact (show w_mo (w_mo S4 (va_up (c_mo S4) d (bF (c_mo S4 d) (c_mt S4 d) i))) (va_up (c_mo (w_mo S4 (va_up (c_mo S4) d (bF (c_mo S4 d) (c_mt S4 d) i)))) d (upd (c_mo (w_mo S4 (va_up (c_mo S4) d (bF (c_mo S4 d) (c_mt S4 d) i))) d) i (c_mt (w_mo S4 (va_up (c_mo S4) d (bF (c_mo S4 d) (c_mt S4 d) i))) d))) = w_mo S4 (va_up (c_mo S4) d (upd (bF (c_mo S4 d) (c_mt S4 d) i) i (c_mt S4 d))) from by show w_mo S4 (va_up (va_up (c_mo S4) d (bF (c_mo S4 d) (c_mt S4 d) i)) d (upd (va_up (c_mo S4) d (bF (c_mo S4 d) (c_mt S4 d) i) d) i (c_mt S4 d))) = _; rw [va_up_up, va_up_self]) ▸ hR) h45 hP hS ls (lv_sub hl [0, 1, 2] rfl)
              exact L123 (c_ct S + 1) 0 E4x _ _ (by omega) (by omega) (by rw [bF_0, va_up_id]; exact hR) h45 hP hS ls (lv_sub hl [0, 2, 3] rfl)
          · have n71 : ¬ (c_ct S2) ≤ i := fun h7 => c71 ((nI_leI (a := (c_ct S2)) (b := i) (by omega) (by omega)).mpr h7)
            refine lv_iload hx hb dX4_batch_74 (lv_at hl 1 rfl) ?_
            refine lv_aload_n hx hb dX4_batch_76 rfl (lv_at hl 2 rfl) ?_
            refine va_get (D := D) (ci := 4) (v := .ref (adr 42)) (C := RX4) (T := TX4) (N := 16) hx hb hG inG_X4 hown hK hP 30 (wl_at (by omega) hM0) rfl 13 (by decide) (hG _ g_506) (fun _ h9 => h9) rfl dX4_batch_77 ?_
            refine lv_bipush (v := 120) hx hb dX4_batch_80 (by decide) ?_
            refine lv_iload_n hx hb dX4_batch_82 rfl (lv_at hl 3 rfl) ?_
            refine lv_imul hx hb dX4_batch_83 ?_
            refine lv_topi (fun y9 e9 => ?_)
            have e9 : y9 = nI (120 * d) := e9.trans (pk_mul 120 d)
            subst e9
            refine lv_iload hx hb dX4_batch_84 (lv_at hl 0 rfl) ?_
            refine lv_iadd hx hb dX4_batch_86 ?_
            refine lv_topi (fun y9 e9 => ?_)
            have e9 : y9 = nI ((120 * d) + i) := e9.trans (nI_add (120 * d) i)
            subst e9
            refine wn_ialde (j := ((120 * d) + i)) (v := c_mo S2 d i) hx hb hK hP (by omega) hM12 (by omega) (by decide) (fl_at (c_mo S2) (by omega)) dX4_batch_87 ?_
            refine lv_if_ge (tgt := 95) hx hb dX4_batch_88 (by decide) (fun c88 => ?_) (fun c88 => ?_)
            · rw [emoS2] at c88
              have hcs : ctB (fun j => decide (c_mo S d j < 0)) (i + 1) = ctB (fun j => decide (c_mo S d j < 0)) i := ctB_f (decide_eq_false (Int32.not_lt.mpr c88))
              refine lv_iconst (v := 0) hx hb dX4_batch_95 (by decide) ?_
              refine lv_iadd hx hb dX4_batch_96 ?_
              refine lv_topi (fun y9 e9 => ?_)
              have e9 : y9 = nI ((ctB (fun j => decide (c_mo S d j < 0)) i) + 0) := e9.trans (nI_add (ctB (fun j => decide (c_mo S d j < 0)) i) 0)
              subst e9
              refine lv_topi (fun y9 e9 => ?_)
              have e9 : y9 = nI (ctB (fun j => decide (c_mo S d j < 0)) (i + 1)) := e9.trans (by first | (rw [hcs]; rfl) | rw [hcs])
              subst e9
              refine lv_istore (lv' := [(4, .int (nI (ctB (fun j => decide (c_mo S d j < 0)) (i + 1)))), (5, .int (nI i)), (0, .ref (adr 30)), (1, .int (nI d)), (2, .int (bI on))]) hx hb dX4_batch_97 hl (by decide) rfl (fun ls hl => ?_)
              refine lv_iinc (v := nI (i + 1)) (lv' := [(5, .int (nI (i + 1))), (4, .int (nI (ctB (fun j => decide (c_mo S d j < 0)) (i + 1)))), (0, .ref (adr 30)), (1, .int (nI d)), (2, .int (bI on))]) hx hb dX4_batch_99 hl (k := 1) rfl (nI_1 _) (by decide) rfl (fun ls hl => ?_)
              refine lv_goto (tgt := 65) hx hb dX4_batch_102 (by decide) ?_
              exact ih65 (i + 1) (by omega) (by omega) ls (lv_sub hl [0, 1, 2, 3, 4] rfl)
            · rw [emoS2] at c88
              have hcs : ctB (fun j => decide (c_mo S d j < 0)) (i + 1) = ctB (fun j => decide (c_mo S d j < 0)) i + 1 := ctB_t (decide_eq_true (Int32.not_le.mp c88))
              refine lv_iconst (v := 1) hx hb dX4_batch_91 (by decide) ?_
              refine lv_goto (tgt := 96) hx hb dX4_batch_92 (by decide) ?_
              refine lv_iadd hx hb dX4_batch_96 ?_
              refine lv_topi (fun y9 e9 => ?_)
              have e9 : y9 = nI ((ctB (fun j => decide (c_mo S d j < 0)) i) + 1) := e9.trans (nI_add (ctB (fun j => decide (c_mo S d j < 0)) i) 1)
              subst e9
              refine lv_topi (fun y9 e9 => ?_)
              have e9 : y9 = nI (ctB (fun j => decide (c_mo S d j < 0)) (i + 1)) := e9.trans (by first | (rw [hcs]; rfl) | rw [hcs])
              subst e9
              refine lv_istore (lv' := [(4, .int (nI (ctB (fun j => decide (c_mo S d j < 0)) (i + 1)))), (5, .int (nI i)), (0, .ref (adr 30)), (1, .int (nI d)), (2, .int (bI on))]) hx hb dX4_batch_97 hl (by decide) rfl (fun ls hl => ?_)
              refine lv_iinc (v := nI (i + 1)) (lv' := [(5, .int (nI (i + 1))), (4, .int (nI (ctB (fun j => decide (c_mo S d j < 0)) (i + 1)))), (0, .ref (adr 30)), (1, .int (nI d)), (2, .int (bI on))]) hx hb dX4_batch_99 hl (k := 1) rfl (nI_1 _) (by decide) rfl (fun ls hl => ?_)
              refine lv_goto (tgt := 65) hx hb dX4_batch_102 (by decide) ?_
              exact ih65 (i + 1) (by omega) (by omega) ls (lv_sub hl [0, 1, 2, 3, 4] rfl)
      exact L65 (c_ct S + 1) 0 (by omega) (by omega) ls (lv_sub hl [0, 1, 3, 4, 5] rfl)
    · refine lv_iconst (v := 1) hx hb dX4_batch_37 (by decide) ?_
      refine lv_goto (tgt := 42) hx hb dX4_batch_38 (by decide) ?_
      refine lv_iconst (v := 0) hx hb dX4_batch_42 (by decide) ?_
      refine lv_iconst (v := 0) hx hb dX4_batch_43 (by decide) ?_
      refine wn_wV (rest := []) hx hb hml hown hG hN hP hS (cX4_throwing_w hAd hn hV hR false true false false) (cwV 4 hG (gV g_557 g_559 gp_X4_throwing g_5 g_560) rfl rfl rfl (by decide +kernel) ⟨Nat.le_of_ble_eq_true rfl, Nat.le_of_ble_eq_true rfl⟩) (by omega) hM0 rfl rfl hl.1 rfl (Nat.le_of_ble_eq_true rfl) dX4_batch_44 ⟨Nat.le_of_ble_eq_true rfl, Nat.le_of_ble_eq_true rfl⟩ (fun F6 H locs hFF hP hS => ?_)
      obtain ⟨hR, fF⟩ := hFF
      have h45 : ∀ j, j < 30 ∨ 45 ≤ j → F6 j = E j := fun j hj => (fF j (by omega)).trans (h45 j hj)
      obtain ⟨hM0, hM1, hM2, hM3, hM4, hM5, hM6, hM7, hM8, hM9, hM10, hM11, hM12, hM13, hM14⟩ := id hR
      refine lv_if_eq (tgt := 52) hx hb dX4_batch_47 (by decide) (fun c47 => absurd c47 (by decide)) (fun c47 => ?_)
      refine lv_iconst (v := 0) hx hb dX4_batch_50 (by decide) ?_
      have hk : k_bat S (nI d) on = 2 := by unfold k_bat; rw [n4, nI_clamp (by omega)]; simp only [if_true]; rw [if_pos (bI_inj c34)]
      exact W.iret (v := 0) hx hb hr (fun u9 ht _ => ⟨(by rw [hk]; rfl), F6, ⟨by rw [hk]; exact hR, h45⟩, by rw [ht]; exact hP, hS.F ht⟩) hS.2.2 dX4_batch_51
  · have n4 : (inN dd 3) = false := bI_0.mp c4
    refine lv_iconst (v := 1) hx hb dX4_batch_7 (by decide) ?_
    refine lv_goto (tgt := 12) hx hb dX4_batch_8 (by decide) ?_
    refine lv_istore_n (lv' := [(3, .int 1), (0, .ref (adr 30)), (1, .int dd), (2, .int (bI on))]) hx hb dX4_batch_12 rfl hl (by decide) rfl (fun ls hl => ?_)
    refine lv_aload_n hx hb dX4_batch_13 rfl (lv_at hl 1 rfl) ?_
    refine lv_iload_n hx hb dX4_batch_14 rfl (lv_at hl 0 rfl) ?_
    refine lv_iload_n hx hb dX4_batch_15 rfl (lv_at hl 0 rfl) ?_
    refine lv_if_ne (tgt := 41) hx hb dX4_batch_16 (by decide) (fun c16 => ?_) (fun c16 => absurd c16 (by decide))
    refine lv_iconst (v := 0) hx hb dX4_batch_41 (by decide) ?_
    refine lv_iconst (v := 0) hx hb dX4_batch_42 (by decide) ?_
    refine lv_iconst (v := 0) hx hb dX4_batch_43 (by decide) ?_
    refine wn_wV (rest := []) hx hb hml hown hG hN hP hS (cX4_throwing_w hAd hn hV hR true false false false) (cwV 4 hG (gV g_557 g_559 gp_X4_throwing g_5 g_560) rfl rfl rfl (by decide +kernel) ⟨Nat.le_of_ble_eq_true rfl, Nat.le_of_ble_eq_true rfl⟩) (by omega) hM0 rfl rfl hl.1 rfl (Nat.le_of_ble_eq_true rfl) dX4_batch_44 ⟨Nat.le_of_ble_eq_true rfl, Nat.le_of_ble_eq_true rfl⟩ (fun F7 H locs hFF hP hS => ?_)
    obtain ⟨hR, fF⟩ := hFF
    have h45 : ∀ j, j < 30 ∨ 45 ≤ j → F7 j = E j := fun j hj => (fF j (by omega)).trans (h45 j hj)
    obtain ⟨hM0, hM1, hM2, hM3, hM4, hM5, hM6, hM7, hM8, hM9, hM10, hM11, hM12, hM13, hM14⟩ := id hR
    refine lv_if_eq (tgt := 52) hx hb dX4_batch_47 (by decide) (fun c47 => absurd c47 (by decide)) (fun c47 => ?_)
    refine lv_iconst (v := 0) hx hb dX4_batch_50 (by decide) ?_
    have hk : k_bat S dd on = 1 := by unfold k_bat; rw [n4]; rfl
    exact W.iret (v := 0) hx hb hr (fun u9 ht _ => ⟨(by rw [hk]; rfl), F7, ⟨by rw [hk]; exact hR, h45⟩, by rw [ht]; exact hP, hS.F ht⟩) hS.2.2 dX4_batch_51
