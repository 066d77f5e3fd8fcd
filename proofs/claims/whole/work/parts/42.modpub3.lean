set_option maxHeartbeats 4000000 in
set_option maxRecDepth 100000 in
theorem cX4_conflicts_w {l : Launch} {D : va_G} {cA : Nat → ClassId} {adr : Nat → Nat} {n : Nat} {E : Nat → va_E} {lo : Nat} (hAd : wd_ad lo n adr) {S : CS} {th : Int32} (hn : 45 ≤ n) (hV : Inv S) (hR : RepM cA adr S th E) (dd : Int32) : Met l yX4_conflicts (.code yX4_conflicts cX4_conflicts 9 (some .int) :: lw_G) ({ frames := 2, cells := 0, slots := 0, locals := 46 } : Room) (va_Pc [.ref (adr 30), .int dd] (wdU D (kty cA) adr n E)) (wq D lo adr n (some (.int (if k_conf S dd = 0 then r_conf S dd else 0))) (fun E2 => RepM cA adr (if k_conf S dd = 0 then S else S) (nI (k_conf S dd)) E2 ∧ ∀ j, j < 30 ∨ 45 ≤ j → E2 j = E j)) 0 0 (fun q => lo ≤ q) := by
  refine Met.ofW (cc := cX4_conflicts) (maxL := 9) (ret := (some .int)) (by decide) rfl ?_
  intro p e s m args below meth c s₁ B hml hv
  obtain ⟨rfl, hP, hN⟩ := hv
  have hx := B.exec
  have hb := B.bytes
  have hr := B.returns
  have hG : ∀ w ∈ lw_G, w.before _ s = true := fun w h => atoms_spec (ws := _ :: lw_G) B.pre w (List.mem_cons_of_mem _ h)
  have hown : s.vm.findClass RX4 = some m.cls := findClass_of_methodNamed B.named
  have hlocks := B.notSynchronized
  have hK := hN.1
  have hS : va_S (fun q => lo ≤ q) s.heap s.heap [] := va_S.rf
  have hF : ∀ j, j ≠ 30 → E j = E j := fun j _ => rfl
  have hl := lv_entry ([.ref (adr 30), .int dd]) (n := 9) (Nat.le_of_ble_eq_true rfl)
  rw [lg_entry_eq]
  generalize (lg_sl ([.ref (adr 30), .int dd]) ++ List.replicate (9 - (lg_sl ([.ref (adr 30), .int dd])).length) Slot.unset).toArray = ls at hl ⊢
  have hl : lv_has ls 9 [(0, .ref (adr 30)), (1, .int dd)] := hl
  obtain ⟨hM0, hM1, hM2, hM3, hM4, hM5, hM6, hM7, hM8, hM9, hM10, hM11, hM12, hM13, hM14⟩ := id hR
  obtain ⟨hct, hnm, htd, hmk, hlf, hnt, hnu, hcn, hmz, hmm, hib, hmr, hrise⟩ := id hV
  have h45 : ∀ j, j < 30 ∨ 45 ≤ j → E j = E j := fun _ _ => rfl
  refine lv_aload_n hx hb dX4_conflicts_0 rfl (lv_at hl 0 rfl) ?_
  refine lv_iload_n hx hb dX4_conflicts_1 rfl (lv_at hl 1 rfl) ?_
  refine wn_rS (rest := [.ref (adr 30)]) hx hb hml hown hG (cX4_isDesk_r _) (cwS 1 hG (gS g_573 g_574 g_5 g_575) rfl rfl rfl (by decide +kernel) ⟨Nat.le_of_ble_eq_true rfl, Nat.le_of_ble_eq_true rfl⟩) rfl hl.1 rfl (Nat.le_of_ble_eq_true rfl) dX4_conflicts_2 ⟨Nat.le_of_ble_eq_true rfl, Nat.le_of_ble_eq_true rfl⟩ ?_
  refine lv_if_ne (tgt := 12) hx hb dX4_conflicts_5 (by decide) (fun c5 => ?_) (fun c5 => ?_)
  · have n5 : (inN dd 3) = true := bI_1.mp c5
    refine lv_iconst (v := 0) hx hb dX4_conflicts_12 (by decide) ?_
    refine lv_iconst (v := 0) hx hb dX4_conflicts_13 (by decide) ?_
    refine lv_iconst (v := 0) hx hb dX4_conflicts_14 (by decide) ?_
    refine lv_iconst (v := 0) hx hb dX4_conflicts_15 (by decide) ?_
    refine wn_wV (rest := []) hx hb hml hown hG hN hP hS (cX4_throwing_w hAd hn hV hR false false false false) (cwV 4 hG (gV g_557 g_559 gp_X4_throwing g_5 g_560) rfl rfl rfl (by decide +kernel) ⟨Nat.le_of_ble_eq_true rfl, Nat.le_of_ble_eq_true rfl⟩) (by omega) hM0 rfl rfl hl.1 rfl (Nat.le_of_ble_eq_true rfl) dX4_conflicts_16 ⟨Nat.le_of_ble_eq_true rfl, Nat.le_of_ble_eq_true rfl⟩ (fun F1 H locs hFF hP hS => ?_)
    obtain ⟨hR, fF⟩ := hFF
    have h45 : ∀ j, j < 30 ∨ 45 ≤ j → F1 j = E j := fun j hj => (fF j (by omega)).trans (h45 j hj)
    obtain ⟨hM0, hM1, hM2, hM3, hM4, hM5, hM6, hM7, hM8, hM9, hM10, hM11, hM12, hM13, hM14⟩ := id hR
    have hR : RepM cA adr S 0 F1 := hR
    refine lv_if_eq (tgt := 24) hx hb dX4_conflicts_19 (by decide) (fun c19 => ?_) (fun c19 => absurd (by decide) c19)
    obtain ⟨d, hd, rfl⟩ := inN_of n5 (by decide)
    refine lv_iconst (v := 0) hx hb dX4_conflicts_24 (by decide) ?_
    refine lv_istore_n (lv' := [(2, .int 0), (0, .ref (adr 30)), (1, .int (nI d))]) hx hb dX4_conflicts_25 rfl hl (by decide) rfl (fun ls hl => ?_)
    refine lv_iconst (v := 0) hx hb dX4_conflicts_26 (by decide) ?_
    refine lv_istore_n (lv' := [(3, .int 0), (2, .int 0), (0, .ref (adr 30)), (1, .int (nI d))]) hx hb dX4_conflicts_27 rfl hl (by decide) rfl (fun ls hl => ?_)
    have L28 : ∀ (f : Nat) (i : Nat), c_ct S - i < f → i ≤ c_ct S → ∀ ls : Array Slot, lv_has ls 9 [(3, .int (nI i)), (2, .int (nI (ctB (fun i => c_see S d i && c_beg S d i) i))), (0, .ref (adr 30)), (1, .int (nI d))] → W p l e (headSpec (.code yX4_conflicts cX4_conflicts 9 (some .int) :: lw_G) ({ frames := 2, cells := 0, slots := 0, locals := 46 } : Room)).room s m [.ref (adr 30), .int (nI d)].toArray below meth c H locs 0 0 (MQ below (wq D lo adr n (some (.int (if k_conf S (nI d) = 0 then r_conf S (nI d) else 0))) (fun E2 => RepM cA adr (if k_conf S (nI d) = 0 then S else S) (nI (k_conf S (nI d))) E2 ∧ ∀ j, j < 30 ∨ 45 ≤ j → E2 j = E j)) [.ref (adr 30), .int (nI d)].toArray s 0 0 (fun q => lo ≤ q)) (F0 m 28 ls []) := by
      intro f
      induction f with
      | zero => intro i h0; exact absurd h0 (by omega)
      | succ f ih28 =>
        intro i hf hi ls hl
        refine lv_iload_n hx hb dX4_conflicts_28 rfl (lv_at hl 0 rfl) ?_
        refine lv_aload_n hx hb dX4_conflicts_29 rfl (lv_at hl 2 rfl) ?_
        refine va_get (D := D) (ci := 4) (v := .int (nI (c_ct S))) (C := RX4) (T := TX4) (N := 16) hx hb hG inG_X4 hown hK hP 30 (wl_at (by omega) hM0) rfl 5 (by decide) (hG _ g_498) (fun _ h9 => h9) rfl dX4_conflicts_30 ?_
        refine lv_icmp_ge (tgt := 216) hx hb dX4_conflicts_33 (by decide) (fun c33 => ?_) (fun c33 => ?_)
        · have n33 : (c_ct S) ≤ i := (nI_leI (a := (c_ct S)) (b := i) (by omega) (by omega)).mp c33
          refine lv_iload_n hx hb dX4_conflicts_216 rfl (lv_at hl 1 rfl) ?_
          have hk : k_conf S (nI d) = 0 := by unfold k_conf; rw [n5]; rfl
          exact W.iret (v := nI (ctB (fun i => c_see S d i && c_beg S d i) i)) hx hb hr (fun u9 ht _ => ⟨(by rw [hk, if_pos rfl]; exact congrArg (fun z => Outcome.returned (some (Value.int z))) (by unfold r_conf; rw [nI_clamp (by omega), show c_ct S = i from by omega])), F1, ⟨by rw [hk]; exact hR, h45⟩, by rw [ht]; exact hP, hS.F ht⟩) hS.2.2 dX4_conflicts_217
        · have n33 : ¬ (c_ct S) ≤ i := fun h7 => c33 ((nI_leI (a := (c_ct S)) (b := i) (by omega) (by omega)).mpr h7)
          refine lv_aload_n hx hb dX4_conflicts_36 rfl (lv_at hl 2 rfl) ?_
          refine lv_iload_n hx hb dX4_conflicts_37 rfl (lv_at hl 3 rfl) ?_
          refine lv_iload_n hx hb dX4_conflicts_38 rfl (lv_at hl 0 rfl) ?_
          refine lv_aload_n hx hb dX4_conflicts_39 rfl (lv_at hl 2 rfl) ?_
          refine va_get (D := D) (ci := 4) (v := .ref (adr 43)) (C := RX4) (T := TX4) (N := 16) hx hb hG inG_X4 hown hK hP 30 (wl_at (by omega) hM0) rfl 14 (by decide) (hG _ g_507) (fun _ h9 => h9) rfl dX4_conflicts_40 ?_
          refine lv_iload_n hx hb dX4_conflicts_43 rfl (lv_at hl 3 rfl) ?_
          refine wn_iald (j := d) hx hb hK hP (by omega) hM13 (by omega) (by decide) dX4_conflicts_44 ?_
          refine wn_rV (rest := []) hx hb hml hown hG hN hP (cX4_sees_r hn hV hR (d := d) (j := i) hd (by omega) (c_mt S d)) (cwV 3 hG (gV g_611 g_613 gp_X4_sees g_5 g_614) rfl rfl rfl (by decide +kernel) ⟨Nat.le_of_ble_eq_true rfl, Nat.le_of_ble_eq_true rfl⟩) (by omega) hM0 rfl rfl hl.1 rfl (Nat.le_of_ble_eq_true rfl) dX4_conflicts_45 ⟨Nat.le_of_ble_eq_true rfl, Nat.le_of_ble_eq_true rfl⟩ ?_
          refine lv_topi (fun y9 e9 => ?_)
          have e9 : y9 = bI (c_see S d i) := e9.trans (congrArg bI (had_see hV hd))
          subst e9
          refine lv_istore (lv' := [(4, .int (bI (c_see S d i))), (3, .int (nI i)), (2, .int (nI (ctB (fun i => c_see S d i && c_beg S d i) i))), (0, .ref (adr 30)), (1, .int (nI d))]) hx hb dX4_conflicts_48 hl (by decide) rfl (fun ls hl => ?_)
          refine lv_iconst (v := 0) hx hb dX4_conflicts_50 (by decide) ?_
          refine lv_istore (lv' := [(5, .int 0), (4, .int (bI (c_see S d i))), (3, .int (nI i)), (2, .int (nI (ctB (fun i => c_see S d i && c_beg S d i) i))), (0, .ref (adr 30)), (1, .int (nI d))]) hx hb dX4_conflicts_51 hl (by decide) rfl (fun ls hl => ?_)
          refine lv_aload_n hx hb dX4_conflicts_53 rfl (lv_at hl 4 rfl) ?_
          refine va_get (D := D) (ci := 4) (v := .ref (adr 41)) (C := RX4) (T := TX4) (N := 16) hx hb hG inG_X4 hown hK hP 30 (wl_at (by omega) hM0) rfl 12 (by decide) (hG _ g_505) (fun _ h9 => h9) rfl dX4_conflicts_54 ?_
          refine lv_iload_n hx hb dX4_conflicts_57 rfl (lv_at hl 2 rfl) ?_
          refine wn_zald (j := i) hx hb hK hP (by omega) hM11 (by omega) (by decide) dX4_conflicts_58 ?_
          refine lv_if_ne (tgt := 66) hx hb dX4_conflicts_59 (by decide) (fun c59 => ?_) (fun c59 => ?_)
          · have n59 : (c_sd S i) = true := bI_1.mp c59
            refine lv_iconst (v := 0) hx hb dX4_conflicts_66 (by decide) ?_
            refine lv_istore (lv' := [(6, .int 0), (5, .int 0), (4, .int (bI (c_see S d i))), (3, .int (nI i)), (2, .int (nI (ctB (fun i => c_see S d i && c_beg S d i) i))), (0, .ref (adr 30)), (1, .int (nI d))]) hx hb dX4_conflicts_67 hl (by decide) rfl (fun ls hl => ?_)
            refine lv_iconst (v := 0) hx hb dX4_conflicts_69 (by decide) ?_
            refine lv_istore (lv' := [(7, .int 0), (6, .int 0), (5, .int 0), (4, .int (bI (c_see S d i))), (3, .int (nI i)), (2, .int (nI (ctB (fun i => c_see S d i && c_beg S d i) i))), (0, .ref (adr 30)), (1, .int (nI d))]) hx hb dX4_conflicts_70 hl (by decide) rfl (fun ls hl => ?_)
            have L72 : ∀ (f : Nat) (r : Nat) (x4 : Bool) (x5 : Bool) (x6 : Bool), c_ct S - r < f → r ≤ c_ct S → (c_see S d i && !anB (fun r => c_rv S i r && c_see S d r && decide (r < i)) r) = x4 → anB (fun r => c_rv S i r && c_see S d r) r = x5 → (!c_sd S i && !anB (fun r => c_rv S i r && c_see S d r && c_sd S r) r) = x6 → ∀ ls : Array Slot, lv_has ls 9 [(7, .int (nI r)), (4, .int (bI x4)), (5, .int (bI x5)), (6, .int (bI x6)), (0, .ref (adr 30)), (1, .int (nI d)), (2, .int (nI (ctB (fun i => c_see S d i && c_beg S d i) i))), (3, .int (nI i))] → W p l e (headSpec (.code yX4_conflicts cX4_conflicts 9 (some .int) :: lw_G) ({ frames := 2, cells := 0, slots := 0, locals := 46 } : Room)).room s m [.ref (adr 30), .int (nI d)].toArray below meth c H locs 0 0 (MQ below (wq D lo adr n (some (.int (if k_conf S (nI d) = 0 then r_conf S (nI d) else 0))) (fun E2 => RepM cA adr (if k_conf S (nI d) = 0 then S else S) (nI (k_conf S (nI d))) E2 ∧ ∀ j, j < 30 ∨ 45 ≤ j → E2 j = E j)) [.ref (adr 30), .int (nI d)].toArray s 0 0 (fun q => lo ≤ q)) (F0 m 72 ls []) := by
              intro f
              induction f with
              | zero => intro r x4 x5 x6 h0; exact absurd h0 (by omega)
              | succ f ih72 =>
                intro r x4 x5 x6 hf hr2 h4 h5 h6 ls hl
                refine lv_iload hx hb dX4_conflicts_72 (lv_at hl 0 rfl) ?_
                refine lv_aload_n hx hb dX4_conflicts_74 rfl (lv_at hl 4 rfl) ?_
                refine va_get (D := D) (ci := 4) (v := .int (nI (c_ct S))) (C := RX4) (T := TX4) (N := 16) hx hb hG inG_X4 hown hK hP 30 (wl_at (by omega) hM0) rfl 5 (by decide) (hG _ g_498) (fun _ h9 => h9) rfl dX4_conflicts_75 ?_
                refine lv_icmp_ge (tgt := 187) hx hb dX4_conflicts_78 (by decide) (fun c78 => ?_) (fun c78 => ?_)
                · have n78 : (c_ct S) ≤ r := (nI_leI (a := (c_ct S)) (b := r) (by omega) (by omega)).mp c78
                  refine lv_iload_n hx hb dX4_conflicts_187 rfl (lv_at hl 6 rfl) ?_
                  refine lv_iload hx hb dX4_conflicts_188 (lv_at hl 1 rfl) ?_
                  refine lv_if_eq (tgt := 207) hx hb dX4_conflicts_190 (by decide) (fun c190 => ?_) (fun c190 => ?_)
                  · have n190 : x4 = false := bI_0.mp c190
                    have hcs : ctB (fun i => c_see S d i && c_beg S d i) (i + 1) = ctB (fun i => c_see S d i && c_beg S d i) i := ctB_f (by show (c_see S d i && c_beg S d i) = _; rw [cf_eq (show r = c_ct S by omega) h4 h5 h6, n190]; simp)
                    refine lv_iconst (v := 0) hx hb dX4_conflicts_207 (by decide) ?_
                    refine lv_iadd hx hb dX4_conflicts_208 ?_
                    refine lv_topi (fun y9 e9 => ?_)
                    have e9 : y9 = nI ((ctB (fun i => c_see S d i && c_beg S d i) i) + 0) := e9.trans (nI_add (ctB (fun i => c_see S d i && c_beg S d i) i) 0)
                    subst e9
                    refine lv_topi (fun y9 e9 => ?_)
                    have e9 : y9 = nI (ctB (fun i => c_see S d i && c_beg S d i) (i + 1)) := e9.trans (by first | (rw [hcs]; rfl) | rw [hcs])
                    subst e9
                    refine lv_istore_n (lv' := [(2, .int (nI (ctB (fun i => c_see S d i && c_beg S d i) (i + 1)))), (7, .int (nI r)), (4, .int (bI x4)), (5, .int (bI x5)), (6, .int (bI x6)), (0, .ref (adr 30)), (1, .int (nI d)), (3, .int (nI i))]) hx hb dX4_conflicts_209 rfl hl (by decide) rfl (fun ls hl => ?_)
                    refine lv_iinc (v := nI (i + 1)) (lv' := [(3, .int (nI (i + 1))), (2, .int (nI (ctB (fun i => c_see S d i && c_beg S d i) (i + 1)))), (7, .int (nI r)), (4, .int (bI x4)), (5, .int (bI x5)), (6, .int (bI x6)), (0, .ref (adr 30)), (1, .int (nI d))]) hx hb dX4_conflicts_210 hl (k := 7) rfl (nI_1 _) (by decide) rfl (fun ls hl => ?_)
                    refine lv_goto (tgt := 28) hx hb dX4_conflicts_213 (by decide) ?_
                    exact ih28 (i + 1) (by omega) (by omega) ls (lv_sub hl [0, 1, 6, 7] rfl)
                  · have n190 : x4 = true := bI_1.mp c190
                    refine lv_iload hx hb dX4_conflicts_193 (lv_at hl 2 rfl) ?_
                    refine lv_if_eq (tgt := 207) hx hb dX4_conflicts_195 (by decide) (fun c195 => ?_) (fun c195 => ?_)
                    · have n195 : x5 = false := bI_0.mp c195
                      have hcs : ctB (fun i => c_see S d i && c_beg S d i) (i + 1) = ctB (fun i => c_see S d i && c_beg S d i) i := ctB_f (by show (c_see S d i && c_beg S d i) = _; rw [cf_eq (show r = c_ct S by omega) h4 h5 h6, n195]; simp)
                      refine lv_iconst (v := 0) hx hb dX4_conflicts_207 (by decide) ?_
                      refine lv_iadd hx hb dX4_conflicts_208 ?_
                      refine lv_topi (fun y9 e9 => ?_)
                      have e9 : y9 = nI ((ctB (fun i => c_see S d i && c_beg S d i) i) + 0) := e9.trans (nI_add (ctB (fun i => c_see S d i && c_beg S d i) i) 0)
                      subst e9
                      refine lv_topi (fun y9 e9 => ?_)
                      have e9 : y9 = nI (ctB (fun i => c_see S d i && c_beg S d i) (i + 1)) := e9.trans (by first | (rw [hcs]; rfl) | rw [hcs])
                      subst e9
                      refine lv_istore_n (lv' := [(2, .int (nI (ctB (fun i => c_see S d i && c_beg S d i) (i + 1)))), (7, .int (nI r)), (4, .int (bI x4)), (5, .int (bI x5)), (6, .int (bI x6)), (0, .ref (adr 30)), (1, .int (nI d)), (3, .int (nI i))]) hx hb dX4_conflicts_209 rfl hl (by decide) rfl (fun ls hl => ?_)
                      refine lv_iinc (v := nI (i + 1)) (lv' := [(3, .int (nI (i + 1))), (2, .int (nI (ctB (fun i => c_see S d i && c_beg S d i) (i + 1)))), (7, .int (nI r)), (4, .int (bI x4)), (5, .int (bI x5)), (6, .int (bI x6)), (0, .ref (adr 30)), (1, .int (nI d))]) hx hb dX4_conflicts_210 hl (k := 7) rfl (nI_1 _) (by decide) rfl (fun ls hl => ?_)
                      refine lv_goto (tgt := 28) hx hb dX4_conflicts_213 (by decide) ?_
                      exact ih28 (i + 1) (by omega) (by omega) ls (lv_sub hl [0, 1, 6, 7] rfl)
                    · have n195 : x5 = true := bI_1.mp c195
                      refine lv_iload hx hb dX4_conflicts_198 (lv_at hl 3 rfl) ?_
                      refine lv_if_eq (tgt := 207) hx hb dX4_conflicts_200 (by decide) (fun c200 => ?_) (fun c200 => ?_)
                      · have n200 : x6 = false := bI_0.mp c200
                        have hcs : ctB (fun i => c_see S d i && c_beg S d i) (i + 1) = ctB (fun i => c_see S d i && c_beg S d i) i := ctB_f (by show (c_see S d i && c_beg S d i) = _; rw [cf_eq (show r = c_ct S by omega) h4 h5 h6, n200]; simp)
                        refine lv_iconst (v := 0) hx hb dX4_conflicts_207 (by decide) ?_
                        refine lv_iadd hx hb dX4_conflicts_208 ?_
                        refine lv_topi (fun y9 e9 => ?_)
                        have e9 : y9 = nI ((ctB (fun i => c_see S d i && c_beg S d i) i) + 0) := e9.trans (nI_add (ctB (fun i => c_see S d i && c_beg S d i) i) 0)
                        subst e9
                        refine lv_topi (fun y9 e9 => ?_)
                        have e9 : y9 = nI (ctB (fun i => c_see S d i && c_beg S d i) (i + 1)) := e9.trans (by first | (rw [hcs]; rfl) | rw [hcs])
                        subst e9
                        refine lv_istore_n (lv' := [(2, .int (nI (ctB (fun i => c_see S d i && c_beg S d i) (i + 1)))), (7, .int (nI r)), (4, .int (bI x4)), (5, .int (bI x5)), (6, .int (bI x6)), (0, .ref (adr 30)), (1, .int (nI d)), (3, .int (nI i))]) hx hb dX4_conflicts_209 rfl hl (by decide) rfl (fun ls hl => ?_)
                        refine lv_iinc (v := nI (i + 1)) (lv' := [(3, .int (nI (i + 1))), (2, .int (nI (ctB (fun i => c_see S d i && c_beg S d i) (i + 1)))), (7, .int (nI r)), (4, .int (bI x4)), (5, .int (bI x5)), (6, .int (bI x6)), (0, .ref (adr 30)), (1, .int (nI d))]) hx hb dX4_conflicts_210 hl (k := 7) rfl (nI_1 _) (by decide) rfl (fun ls hl => ?_)
                        refine lv_goto (tgt := 28) hx hb dX4_conflicts_213 (by decide) ?_
                        exact ih28 (i + 1) (by omega) (by omega) ls (lv_sub hl [0, 1, 6, 7] rfl)
                      · have n200 : x6 = true := bI_1.mp c200
                        have hcs : ctB (fun i => c_see S d i && c_beg S d i) (i + 1) = ctB (fun i => c_see S d i && c_beg S d i) i + 1 := ctB_t (by show (c_see S d i && c_beg S d i) = _; rw [cf_eq (show r = c_ct S by omega) h4 h5 h6, n190, n195, n200]; rfl)
                        refine lv_iconst (v := 1) hx hb dX4_conflicts_203 (by decide) ?_
                        refine lv_goto (tgt := 208) hx hb dX4_conflicts_204 (by decide) ?_
                        refine lv_iadd hx hb dX4_conflicts_208 ?_
                        refine lv_topi (fun y9 e9 => ?_)
                        have e9 : y9 = nI ((ctB (fun i => c_see S d i && c_beg S d i) i) + 1) := e9.trans (nI_add (ctB (fun i => c_see S d i && c_beg S d i) i) 1)
                        subst e9
                        refine lv_topi (fun y9 e9 => ?_)
                        have e9 : y9 = nI (ctB (fun i => c_see S d i && c_beg S d i) (i + 1)) := e9.trans (by first | (rw [hcs]; rfl) | rw [hcs])
                        subst e9
                        refine lv_istore_n (lv' := [(2, .int (nI (ctB (fun i => c_see S d i && c_beg S d i) (i + 1)))), (7, .int (nI r)), (4, .int (bI x4)), (5, .int (bI x5)), (6, .int (bI x6)), (0, .ref (adr 30)), (1, .int (nI d)), (3, .int (nI i))]) hx hb dX4_conflicts_209 rfl hl (by decide) rfl (fun ls hl => ?_)
                        refine lv_iinc (v := nI (i + 1)) (lv' := [(3, .int (nI (i + 1))), (2, .int (nI (ctB (fun i => c_see S d i && c_beg S d i) (i + 1)))), (7, .int (nI r)), (4, .int (bI x4)), (5, .int (bI x5)), (6, .int (bI x6)), (0, .ref (adr 30)), (1, .int (nI d))]) hx hb dX4_conflicts_210 hl (k := 7) rfl (nI_1 _) (by decide) rfl (fun ls hl => ?_)
                        refine lv_goto (tgt := 28) hx hb dX4_conflicts_213 (by decide) ?_
                        exact ih28 (i + 1) (by omega) (by omega) ls (lv_sub hl [0, 1, 6, 7] rfl)
                · have n78 : ¬ (c_ct S) ≤ r := fun h7 => c78 ((nI_leI (a := (c_ct S)) (b := r) (by omega) (by omega)).mpr h7)
                  have J154 : ∀ (x8 : Bool) (y4 : Bool) (y5 : Bool), (c_rv S i r && c_see S d r) = x8 → (c_see S d i && !anB (fun r => c_rv S i r && c_see S d r && decide (r < i)) (r + 1)) = y4 → anB (fun r => c_rv S i r && c_see S d r) (r + 1) = y5 → ∀ ls : Array Slot, lv_has ls 9 [(8, .int (bI x8)), (4, .int (bI y4)), (5, .int (bI y5)), (6, .int (bI x6)), (7, .int (nI r)), (0, .ref (adr 30)), (1, .int (nI d)), (2, .int (nI (ctB (fun i => c_see S d i && c_beg S d i) i))), (3, .int (nI i))] → W p l e (headSpec (.code yX4_conflicts cX4_conflicts 9 (some .int) :: lw_G) ({ frames := 2, cells := 0, slots := 0, locals := 46 } : Room)).room s m [.ref (adr 30), .int (nI d)].toArray below meth c H locs 0 0 (MQ below (wq D lo adr n (some (.int (if k_conf S (nI d) = 0 then r_conf S (nI d) else 0))) (fun E2 => RepM cA adr (if k_conf S (nI d) = 0 then S else S) (nI (k_conf S (nI d))) E2 ∧ ∀ j, j < 30 ∨ 45 ≤ j → E2 j = E j)) [.ref (adr 30), .int (nI d)].toArray s 0 0 (fun q => lo ≤ q)) (F0 m 154 ls []) := by
                    intro x8 y4 y5 h8 g4 g5 ls hl
                    refine lv_iload hx hb dX4_conflicts_154 (lv_at hl 3 rfl) ?_
                    refine lv_if_eq (tgt := 178) hx hb dX4_conflicts_156 (by decide) (fun c156 => ?_) (fun c156 => ?_)
                    · have n156 : x6 = false := bI_0.mp c156
                      refine lv_iconst (v := 0) hx hb dX4_conflicts_178 (by decide) ?_
                      refine lv_istore (lv' := [(6, .int 0), (8, .int (bI x8)), (4, .int (bI y4)), (5, .int (bI y5)), (7, .int (nI r)), (0, .ref (adr 30)), (1, .int (nI d)), (2, .int (nI (ctB (fun i => c_see S d i && c_beg S d i) i))), (3, .int (nI i))]) hx hb dX4_conflicts_179 hl (by decide) rfl (fun ls hl => ?_)
                      refine lv_iinc (v := nI (r + 1)) (lv' := [(7, .int (nI (r + 1))), (6, .int 0), (8, .int (bI x8)), (4, .int (bI y4)), (5, .int (bI y5)), (0, .ref (adr 30)), (1, .int (nI d)), (2, .int (nI (ctB (fun i => c_see S d i && c_beg S d i) i))), (3, .int (nI i))]) hx hb dX4_conflicts_181 hl (k := 4) rfl (nI_1 _) (by decide) rfl (fun ls hl => ?_)
                      refine lv_goto (tgt := 72) hx hb dX4_conflicts_184 (by decide) ?_
                      exact ih72 (r + 1) y4 y5 false (by omega) (by omega) g4 g5 (by show (!c_sd S i && !(anB (fun r => c_rv S i r && c_see S d r && c_sd S r) r || (c_rv S i r && c_see S d r && c_sd S r))) = _; rw [h8, Bool.not_or, ← Bool.and_assoc, h6]; first | (rw [n156]; rfl) | (rw [n156, n161]; rfl) | (rw [n156, n161, n171]; rfl)) ls (lv_sub hl [0, 3, 4, 1, 5, 6, 7, 8] rfl)
                    · have n156 : x6 = true := bI_1.mp c156
                      refine lv_iload hx hb dX4_conflicts_159 (lv_at hl 0 rfl) ?_
                      refine lv_if_eq (tgt := 174) hx hb dX4_conflicts_161 (by decide) (fun c161 => ?_) (fun c161 => ?_)
                      · have n161 : x8 = false := bI_0.mp c161
                        refine lv_iconst (v := 1) hx hb dX4_conflicts_174 (by decide) ?_
                        refine lv_goto (tgt := 179) hx hb dX4_conflicts_175 (by decide) ?_
                        refine lv_istore (lv' := [(6, .int 1), (8, .int (bI x8)), (4, .int (bI y4)), (5, .int (bI y5)), (7, .int (nI r)), (0, .ref (adr 30)), (1, .int (nI d)), (2, .int (nI (ctB (fun i => c_see S d i && c_beg S d i) i))), (3, .int (nI i))]) hx hb dX4_conflicts_179 hl (by decide) rfl (fun ls hl => ?_)
                        refine lv_iinc (v := nI (r + 1)) (lv' := [(7, .int (nI (r + 1))), (6, .int 1), (8, .int (bI x8)), (4, .int (bI y4)), (5, .int (bI y5)), (0, .ref (adr 30)), (1, .int (nI d)), (2, .int (nI (ctB (fun i => c_see S d i && c_beg S d i) i))), (3, .int (nI i))]) hx hb dX4_conflicts_181 hl (k := 4) rfl (nI_1 _) (by decide) rfl (fun ls hl => ?_)
                        refine lv_goto (tgt := 72) hx hb dX4_conflicts_184 (by decide) ?_
                        exact ih72 (r + 1) y4 y5 true (by omega) (by omega) g4 g5 (by show (!c_sd S i && !(anB (fun r => c_rv S i r && c_see S d r && c_sd S r) r || (c_rv S i r && c_see S d r && c_sd S r))) = _; rw [h8, Bool.not_or, ← Bool.and_assoc, h6]; first | (rw [n156]; rfl) | (rw [n156, n161]; rfl) | (rw [n156, n161, n171]; rfl)) ls (lv_sub hl [0, 3, 4, 1, 5, 6, 7, 8] rfl)
                      · have n161 : x8 = true := bI_1.mp c161
                        refine lv_aload_n hx hb dX4_conflicts_164 rfl (lv_at hl 5 rfl) ?_
                        refine va_get (D := D) (ci := 4) (v := .ref (adr 41)) (C := RX4) (T := TX4) (N := 16) hx hb hG inG_X4 hown hK hP 30 (wl_at (by omega) hM0) rfl 12 (by decide) (hG _ g_505) (fun _ h9 => h9) rfl dX4_conflicts_165 ?_
                        refine lv_iload hx hb dX4_conflicts_168 (lv_at hl 4 rfl) ?_
                        refine wn_zald (j := r) hx hb hK hP (by omega) hM11 (by omega) (by decide) dX4_conflicts_170 ?_
                        refine lv_if_ne (tgt := 178) hx hb dX4_conflicts_171 (by decide) (fun c171 => ?_) (fun c171 => ?_)
                        · have n171 : (c_sd S r) = true := bI_1.mp c171
                          refine lv_iconst (v := 0) hx hb dX4_conflicts_178 (by decide) ?_
                          refine lv_istore (lv' := [(6, .int 0), (8, .int (bI x8)), (4, .int (bI y4)), (5, .int (bI y5)), (7, .int (nI r)), (0, .ref (adr 30)), (1, .int (nI d)), (2, .int (nI (ctB (fun i => c_see S d i && c_beg S d i) i))), (3, .int (nI i))]) hx hb dX4_conflicts_179 hl (by decide) rfl (fun ls hl => ?_)
                          refine lv_iinc (v := nI (r + 1)) (lv' := [(7, .int (nI (r + 1))), (6, .int 0), (8, .int (bI x8)), (4, .int (bI y4)), (5, .int (bI y5)), (0, .ref (adr 30)), (1, .int (nI d)), (2, .int (nI (ctB (fun i => c_see S d i && c_beg S d i) i))), (3, .int (nI i))]) hx hb dX4_conflicts_181 hl (k := 4) rfl (nI_1 _) (by decide) rfl (fun ls hl => ?_)
                          refine lv_goto (tgt := 72) hx hb dX4_conflicts_184 (by decide) ?_
                          exact ih72 (r + 1) y4 y5 false (by omega) (by omega) g4 g5 (by show (!c_sd S i && !(anB (fun r => c_rv S i r && c_see S d r && c_sd S r) r || (c_rv S i r && c_see S d r && c_sd S r))) = _; rw [h8, Bool.not_or, ← Bool.and_assoc, h6]; first | (rw [n156]; rfl) | (rw [n156, n161]; rfl) | (rw [n156, n161, n171]; rfl)) ls (lv_sub hl [0, 3, 4, 1, 5, 6, 7, 8] rfl)
                        · have n171 : (c_sd S r) = false := bI_0.mp c171
                          refine lv_iconst (v := 1) hx hb dX4_conflicts_174 (by decide) ?_
                          refine lv_goto (tgt := 179) hx hb dX4_conflicts_175 (by decide) ?_
                          refine lv_istore (lv' := [(6, .int 1), (8, .int (bI x8)), (4, .int (bI y4)), (5, .int (bI y5)), (7, .int (nI r)), (0, .ref (adr 30)), (1, .int (nI d)), (2, .int (nI (ctB (fun i => c_see S d i && c_beg S d i) i))), (3, .int (nI i))]) hx hb dX4_conflicts_179 hl (by decide) rfl (fun ls hl => ?_)
                          refine lv_iinc (v := nI (r + 1)) (lv' := [(7, .int (nI (r + 1))), (6, .int 1), (8, .int (bI x8)), (4, .int (bI y4)), (5, .int (bI y5)), (0, .ref (adr 30)), (1, .int (nI d)), (2, .int (nI (ctB (fun i => c_see S d i && c_beg S d i) i))), (3, .int (nI i))]) hx hb dX4_conflicts_181 hl (k := 4) rfl (nI_1 _) (by decide) rfl (fun ls hl => ?_)
                          refine lv_goto (tgt := 72) hx hb dX4_conflicts_184 (by decide) ?_
                          exact ih72 (r + 1) y4 y5 true (by omega) (by omega) g4 g5 (by show (!c_sd S i && !(anB (fun r => c_rv S i r && c_see S d r && c_sd S r) r || (c_rv S i r && c_see S d r && c_sd S r))) = _; rw [h8, Bool.not_or, ← Bool.and_assoc, h6]; first | (rw [n156]; rfl) | (rw [n156, n161]; rfl) | (rw [n156, n161, n171]; rfl)) ls (lv_sub hl [0, 3, 4, 1, 5, 6, 7, 8] rfl)
                  have J137 : ∀ (x8 : Bool) (y4 : Bool), (c_rv S i r && c_see S d r) = x8 → (c_see S d i && !anB (fun r => c_rv S i r && c_see S d r && decide (r < i)) (r + 1)) = y4 → ∀ ls : Array Slot, lv_has ls 9 [(8, .int (bI x8)), (4, .int (bI y4)), (5, .int (bI x5)), (6, .int (bI x6)), (7, .int (nI r)), (0, .ref (adr 30)), (1, .int (nI d)), (2, .int (nI (ctB (fun i => c_see S d i && c_beg S d i) i))), (3, .int (nI i))] → W p l e (headSpec (.code yX4_conflicts cX4_conflicts 9 (some .int) :: lw_G) ({ frames := 2, cells := 0, slots := 0, locals := 46 } : Room)).room s m [.ref (adr 30), .int (nI d)].toArray below meth c H locs 0 0 (MQ below (wq D lo adr n (some (.int (if k_conf S (nI d) = 0 then r_conf S (nI d) else 0))) (fun E2 => RepM cA adr (if k_conf S (nI d) = 0 then S else S) (nI (k_conf S (nI d))) E2 ∧ ∀ j, j < 30 ∨ 45 ≤ j → E2 j = E j)) [.ref (adr 30), .int (nI d)].toArray s 0 0 (fun q => lo ≤ q)) (F0 m 137 ls []) := by
                    intro x8 y4 h8 g4 ls hl
                    refine lv_iload hx hb dX4_conflicts_137 (lv_at hl 2 rfl) ?_
                    refine lv_if_ne (tgt := 147) hx hb dX4_conflicts_139 (by decide) (fun c139 => ?_) (fun c139 => ?_)
                    · have n139 : x5 = true := bI_1.mp c139
                      refine lv_iconst (v := 1) hx hb dX4_conflicts_147 (by decide) ?_
                      refine lv_goto (tgt := 152) hx hb dX4_conflicts_148 (by decide) ?_
                      refine lv_istore (lv' := [(5, .int 1), (8, .int (bI x8)), (4, .int (bI y4)), (6, .int (bI x6)), (7, .int (nI r)), (0, .ref (adr 30)), (1, .int (nI d)), (2, .int (nI (ctB (fun i => c_see S d i && c_beg S d i) i))), (3, .int (nI i))]) hx hb dX4_conflicts_152 hl (by decide) rfl (fun ls hl => ?_)
                      exact J154 x8 y4 true h8 g4 (by show (anB (fun r => c_rv S i r && c_see S d r) r || (c_rv S i r && c_see S d r)) = _; rw [h5, h8]; first | (rw [n139]; rfl) | (rw [n139, n144]; rfl)) ls (lv_sub hl [1, 2, 0, 3, 4, 5, 6, 7, 8] rfl)
                    · have n139 : x5 = false := bI_0.mp c139
                      refine lv_iload hx hb dX4_conflicts_142 (lv_at hl 0 rfl) ?_
                      refine lv_if_eq (tgt := 151) hx hb dX4_conflicts_144 (by decide) (fun c144 => ?_) (fun c144 => ?_)
                      · have n144 : x8 = false := bI_0.mp c144
                        refine lv_iconst (v := 0) hx hb dX4_conflicts_151 (by decide) ?_
                        refine lv_istore (lv' := [(5, .int 0), (8, .int (bI x8)), (4, .int (bI y4)), (6, .int (bI x6)), (7, .int (nI r)), (0, .ref (adr 30)), (1, .int (nI d)), (2, .int (nI (ctB (fun i => c_see S d i && c_beg S d i) i))), (3, .int (nI i))]) hx hb dX4_conflicts_152 hl (by decide) rfl (fun ls hl => ?_)
                        exact J154 x8 y4 false h8 g4 (by show (anB (fun r => c_rv S i r && c_see S d r) r || (c_rv S i r && c_see S d r)) = _; rw [h5, h8]; first | (rw [n139]; rfl) | (rw [n139, n144]; rfl)) ls (lv_sub hl [1, 2, 0, 3, 4, 5, 6, 7, 8] rfl)
                      · have n144 : x8 = true := bI_1.mp c144
                        refine lv_iconst (v := 1) hx hb dX4_conflicts_147 (by decide) ?_
                        refine lv_goto (tgt := 152) hx hb dX4_conflicts_148 (by decide) ?_
                        refine lv_istore (lv' := [(5, .int 1), (8, .int (bI x8)), (4, .int (bI y4)), (6, .int (bI x6)), (7, .int (nI r)), (0, .ref (adr 30)), (1, .int (nI d)), (2, .int (nI (ctB (fun i => c_see S d i && c_beg S d i) i))), (3, .int (nI i))]) hx hb dX4_conflicts_152 hl (by decide) rfl (fun ls hl => ?_)
                        exact J154 x8 y4 true h8 g4 (by show (anB (fun r => c_rv S i r && c_see S d r) r || (c_rv S i r && c_see S d r)) = _; rw [h5, h8]; first | (rw [n139]; rfl) | (rw [n139, n144]; rfl)) ls (lv_sub hl [1, 2, 0, 3, 4, 5, 6, 7, 8] rfl)
                  have J114 : ∀ (x8 : Bool), (c_rv S i r && c_see S d r) = x8 → ∀ ls : Array Slot, lv_has ls 9 [(8, .int (bI x8)), (4, .int (bI x4)), (5, .int (bI x5)), (6, .int (bI x6)), (7, .int (nI r)), (0, .ref (adr 30)), (1, .int (nI d)), (2, .int (nI (ctB (fun i => c_see S d i && c_beg S d i) i))), (3, .int (nI i))] → W p l e (headSpec (.code yX4_conflicts cX4_conflicts 9 (some .int) :: lw_G) ({ frames := 2, cells := 0, slots := 0, locals := 46 } : Room)).room s m [.ref (adr 30), .int (nI d)].toArray below meth c H locs 0 0 (MQ below (wq D lo adr n (some (.int (if k_conf S (nI d) = 0 then r_conf S (nI d) else 0))) (fun E2 => RepM cA adr (if k_conf S (nI d) = 0 then S else S) (nI (k_conf S (nI d))) E2 ∧ ∀ j, j < 30 ∨ 45 ≤ j → E2 j = E j)) [.ref (adr 30), .int (nI d)].toArray s 0 0 (fun q => lo ≤ q)) (F0 m 114 ls []) := by
                    intro x8 h8 ls hl
                    refine lv_iload hx hb dX4_conflicts_114 (lv_at hl 1 rfl) ?_
                    refine lv_if_eq (tgt := 134) hx hb dX4_conflicts_116 (by decide) (fun c116 => ?_) (fun c116 => ?_)
                    · have n116 : x4 = false := bI_0.mp c116
                      refine lv_iconst (v := 0) hx hb dX4_conflicts_134 (by decide) ?_
                      refine lv_istore (lv' := [(4, .int 0), (8, .int (bI x8)), (5, .int (bI x5)), (6, .int (bI x6)), (7, .int (nI r)), (0, .ref (adr 30)), (1, .int (nI d)), (2, .int (nI (ctB (fun i => c_see S d i && c_beg S d i) i))), (3, .int (nI i))]) hx hb dX4_conflicts_135 hl (by decide) rfl (fun ls hl => ?_)
                      exact J137 x8 false h8 (by show (c_see S d i && !(anB (fun r => c_rv S i r && c_see S d r && decide (r < i)) r || (c_rv S i r && c_see S d r && decide (r < i)))) = _; rw [h8, Bool.not_or, ← Bool.and_assoc, h4]; first | (rw [n116]; rfl) | (rw [n116, n121]; rfl) | (rw [n116, n121, decide_eq_true (show r < i by omega)]; rfl) | (rw [n116, n121, decide_eq_false (show ¬ r < i by omega)]; rfl)) ls (lv_sub hl [1, 0, 2, 3, 4, 5, 6, 7, 8] rfl)
                    · have n116 : x4 = true := bI_1.mp c116
                      refine lv_iload hx hb dX4_conflicts_119 (lv_at hl 0 rfl) ?_
                      refine lv_if_eq (tgt := 130) hx hb dX4_conflicts_121 (by decide) (fun c121 => ?_) (fun c121 => ?_)
                      · have n121 : x8 = false := bI_0.mp c121
                        refine lv_iconst (v := 1) hx hb dX4_conflicts_130 (by decide) ?_
                        refine lv_goto (tgt := 135) hx hb dX4_conflicts_131 (by decide) ?_
                        refine lv_istore (lv' := [(4, .int 1), (8, .int (bI x8)), (5, .int (bI x5)), (6, .int (bI x6)), (7, .int (nI r)), (0, .ref (adr 30)), (1, .int (nI d)), (2, .int (nI (ctB (fun i => c_see S d i && c_beg S d i) i))), (3, .int (nI i))]) hx hb dX4_conflicts_135 hl (by decide) rfl (fun ls hl => ?_)
                        exact J137 x8 true h8 (by show (c_see S d i && !(anB (fun r => c_rv S i r && c_see S d r && decide (r < i)) r || (c_rv S i r && c_see S d r && decide (r < i)))) = _; rw [h8, Bool.not_or, ← Bool.and_assoc, h4]; first | (rw [n116]; rfl) | (rw [n116, n121]; rfl) | (rw [n116, n121, decide_eq_true (show r < i by omega)]; rfl) | (rw [n116, n121, decide_eq_false (show ¬ r < i by omega)]; rfl)) ls (lv_sub hl [1, 0, 2, 3, 4, 5, 6, 7, 8] rfl)
                      · have n121 : x8 = true := bI_1.mp c121
                        refine lv_iload hx hb dX4_conflicts_124 (lv_at hl 4 rfl) ?_
                        refine lv_iload_n hx hb dX4_conflicts_126 rfl (lv_at hl 8 rfl) ?_
                        refine lv_icmp_lt (tgt := 134) hx hb dX4_conflicts_127 (by decide) (fun c127 => ?_) (fun c127 => ?_)
                        · have n127 : r < i := (nI_ltI (a := r) (b := i) (by omega) (by omega)).mp c127
                          refine lv_iconst (v := 0) hx hb dX4_conflicts_134 (by decide) ?_
                          refine lv_istore (lv' := [(4, .int 0), (8, .int (bI x8)), (5, .int (bI x5)), (6, .int (bI x6)), (7, .int (nI r)), (0, .ref (adr 30)), (1, .int (nI d)), (2, .int (nI (ctB (fun i => c_see S d i && c_beg S d i) i))), (3, .int (nI i))]) hx hb dX4_conflicts_135 hl (by decide) rfl (fun ls hl => ?_)
                          exact J137 x8 false h8 (by show (c_see S d i && !(anB (fun r => c_rv S i r && c_see S d r && decide (r < i)) r || (c_rv S i r && c_see S d r && decide (r < i)))) = _; rw [h8, Bool.not_or, ← Bool.and_assoc, h4]; first | (rw [n116]; rfl) | (rw [n116, n121]; rfl) | (rw [n116, n121, decide_eq_true (show r < i by omega)]; rfl) | (rw [n116, n121, decide_eq_false (show ¬ r < i by omega)]; rfl)) ls (lv_sub hl [1, 0, 2, 3, 4, 5, 6, 7, 8] rfl)
                        · have n127 : ¬ r < i := fun h7 => c127 ((nI_ltI (a := r) (b := i) (by omega) (by omega)).mpr h7)
                          refine lv_iconst (v := 1) hx hb dX4_conflicts_130 (by decide) ?_
                          refine lv_goto (tgt := 135) hx hb dX4_conflicts_131 (by decide) ?_
                          refine lv_istore (lv' := [(4, .int 1), (8, .int (bI x8)), (5, .int (bI x5)), (6, .int (bI x6)), (7, .int (nI r)), (0, .ref (adr 30)), (1, .int (nI d)), (2, .int (nI (ctB (fun i => c_see S d i && c_beg S d i) i))), (3, .int (nI i))]) hx hb dX4_conflicts_135 hl (by decide) rfl (fun ls hl => ?_)
                          exact J137 x8 true h8 (by show (c_see S d i && !(anB (fun r => c_rv S i r && c_see S d r && decide (r < i)) r || (c_rv S i r && c_see S d r && decide (r < i)))) = _; rw [h8, Bool.not_or, ← Bool.and_assoc, h4]; first | (rw [n116]; rfl) | (rw [n116, n121]; rfl) | (rw [n116, n121, decide_eq_true (show r < i by omega)]; rfl) | (rw [n116, n121, decide_eq_false (show ¬ r < i by omega)]; rfl)) ls (lv_sub hl [1, 0, 2, 3, 4, 5, 6, 7, 8] rfl)
                  refine lv_aload_n hx hb dX4_conflicts_81 rfl (lv_at hl 4 rfl) ?_
                  refine lv_iload_n hx hb dX4_conflicts_82 rfl (lv_at hl 7 rfl) ?_
                  refine lv_iload hx hb dX4_conflicts_83 (lv_at hl 0 rfl) ?_
                  refine wn_rV (rest := []) hx hb hml hown hG hN hP (cX4_areRivals_r hn hV hR (i := i) (j := r) (by omega) (by omega)) (cwV 2 hG (gV g_587 g_589 gp_X4_areRivals g_5 g_590) rfl rfl rfl (by decide +kernel) ⟨Nat.le_of_ble_eq_true rfl, Nat.le_of_ble_eq_true rfl⟩) (by omega) hM0 rfl rfl hl.1 rfl (Nat.le_of_ble_eq_true rfl) dX4_conflicts_85 ⟨Nat.le_of_ble_eq_true rfl, Nat.le_of_ble_eq_true rfl⟩ ?_
                  refine lv_if_eq (tgt := 111) hx hb dX4_conflicts_88 (by decide) (fun c88 => ?_) (fun c88 => ?_)
                  · have n88 : (c_rv S i r) = false := bI_0.mp c88
                    refine lv_iconst (v := 0) hx hb dX4_conflicts_111 (by decide) ?_
                    refine lv_istore (lv' := [(8, .int 0), (7, .int (nI r)), (4, .int (bI x4)), (5, .int (bI x5)), (6, .int (bI x6)), (0, .ref (adr 30)), (1, .int (nI d)), (2, .int (nI (ctB (fun i => c_see S d i && c_beg S d i) i))), (3, .int (nI i))]) hx hb dX4_conflicts_112 hl (by decide) rfl (fun ls hl => ?_)
                    exact J114 false (by first | (rw [n88]; rfl) | (rw [n88, n104]; rfl)) ls (lv_sub hl [0, 2, 3, 4, 1, 5, 6, 7, 8] rfl)
                  · have n88 : (c_rv S i r) = true := bI_1.mp c88
                    refine lv_aload_n hx hb dX4_conflicts_91 rfl (lv_at hl 4 rfl) ?_
                    refine lv_iload_n hx hb dX4_conflicts_92 rfl (lv_at hl 5 rfl) ?_
                    refine lv_iload hx hb dX4_conflicts_93 (lv_at hl 0 rfl) ?_
                    refine lv_aload_n hx hb dX4_conflicts_95 rfl (lv_at hl 4 rfl) ?_
                    refine va_get (D := D) (ci := 4) (v := .ref (adr 43)) (C := RX4) (T := TX4) (N := 16) hx hb hG inG_X4 hown hK hP 30 (wl_at (by omega) hM0) rfl 14 (by decide) (hG _ g_507) (fun _ h9 => h9) rfl dX4_conflicts_96 ?_
                    refine lv_iload_n hx hb dX4_conflicts_99 rfl (lv_at hl 5 rfl) ?_
                    refine wn_iald (j := d) hx hb hK hP (by omega) hM13 (by omega) (by decide) dX4_conflicts_100 ?_
                    refine wn_rV (rest := []) hx hb hml hown hG hN hP (cX4_sees_r hn hV hR (d := d) (j := r) hd (by omega) (c_mt S d)) (cwV 3 hG (gV g_611 g_613 gp_X4_sees g_5 g_614) rfl rfl rfl (by decide +kernel) ⟨Nat.le_of_ble_eq_true rfl, Nat.le_of_ble_eq_true rfl⟩) (by omega) hM0 rfl rfl hl.1 rfl (Nat.le_of_ble_eq_true rfl) dX4_conflicts_101 ⟨Nat.le_of_ble_eq_true rfl, Nat.le_of_ble_eq_true rfl⟩ ?_
                    refine lv_topi (fun y9 e9 => ?_)
                    have e9 : y9 = bI (c_see S d r) := e9.trans (congrArg bI (had_see hV hd))
                    subst e9
                    refine lv_if_eq (tgt := 111) hx hb dX4_conflicts_104 (by decide) (fun c104 => ?_) (fun c104 => ?_)
                    · have n104 : (c_see S d r) = false := bI_0.mp c104
                      refine lv_iconst (v := 0) hx hb dX4_conflicts_111 (by decide) ?_
                      refine lv_istore (lv' := [(8, .int 0), (7, .int (nI r)), (4, .int (bI x4)), (5, .int (bI x5)), (6, .int (bI x6)), (0, .ref (adr 30)), (1, .int (nI d)), (2, .int (nI (ctB (fun i => c_see S d i && c_beg S d i) i))), (3, .int (nI i))]) hx hb dX4_conflicts_112 hl (by decide) rfl (fun ls hl => ?_)
                      exact J114 false (by first | (rw [n88]; rfl) | (rw [n88, n104]; rfl)) ls (lv_sub hl [0, 2, 3, 4, 1, 5, 6, 7, 8] rfl)
                    · have n104 : (c_see S d r) = true := bI_1.mp c104
                      refine lv_iconst (v := 1) hx hb dX4_conflicts_107 (by decide) ?_
                      refine lv_goto (tgt := 112) hx hb dX4_conflicts_108 (by decide) ?_
                      refine lv_istore (lv' := [(8, .int 1), (7, .int (nI r)), (4, .int (bI x4)), (5, .int (bI x5)), (6, .int (bI x6)), (0, .ref (adr 30)), (1, .int (nI d)), (2, .int (nI (ctB (fun i => c_see S d i && c_beg S d i) i))), (3, .int (nI i))]) hx hb dX4_conflicts_112 hl (by decide) rfl (fun ls hl => ?_)
                      exact J114 true (by first | (rw [n88]; rfl) | (rw [n88, n104]; rfl)) ls (lv_sub hl [0, 2, 3, 4, 1, 5, 6, 7, 8] rfl)
            exact L72 (c_ct S + 1) 0 (c_see S d i) false false (by omega) (by omega) (Bool.and_true _) rfl (by rw [n59]; rfl) ls (lv_sub hl [0, 3, 2, 1, 6, 7, 5, 4] rfl)
          · have n59 : (c_sd S i) = false := bI_0.mp c59
            refine lv_iconst (v := 1) hx hb dX4_conflicts_62 (by decide) ?_
            refine lv_goto (tgt := 67) hx hb dX4_conflicts_63 (by decide) ?_
            refine lv_istore (lv' := [(6, .int 1), (5, .int 0), (4, .int (bI (c_see S d i))), (3, .int (nI i)), (2, .int (nI (ctB (fun i => c_see S d i && c_beg S d i) i))), (0, .ref (adr 30)), (1, .int (nI d))]) hx hb dX4_conflicts_67 hl (by decide) rfl (fun ls hl => ?_)
            refine lv_iconst (v := 0) hx hb dX4_conflicts_69 (by decide) ?_
            refine lv_istore (lv' := [(7, .int 0), (6, .int 1), (5, .int 0), (4, .int (bI (c_see S d i))), (3, .int (nI i)), (2, .int (nI (ctB (fun i => c_see S d i && c_beg S d i) i))), (0, .ref (adr 30)), (1, .int (nI d))]) hx hb dX4_conflicts_70 hl (by decide) rfl (fun ls hl => ?_)
            have L72 : ∀ (f : Nat) (r : Nat) (x4 : Bool) (x5 : Bool) (x6 : Bool), c_ct S - r < f → r ≤ c_ct S → (c_see S d i && !anB (fun r => c_rv S i r && c_see S d r && decide (r < i)) r) = x4 → anB (fun r => c_rv S i r && c_see S d r) r = x5 → (!c_sd S i && !anB (fun r => c_rv S i r && c_see S d r && c_sd S r) r) = x6 → ∀ ls : Array Slot, lv_has ls 9 [(7, .int (nI r)), (4, .int (bI x4)), (5, .int (bI x5)), (6, .int (bI x6)), (0, .ref (adr 30)), (1, .int (nI d)), (2, .int (nI (ctB (fun i => c_see S d i && c_beg S d i) i))), (3, .int (nI i))] → W p l e (headSpec (.code yX4_conflicts cX4_conflicts 9 (some .int) :: lw_G) ({ frames := 2, cells := 0, slots := 0, locals := 46 } : Room)).room s m [.ref (adr 30), .int (nI d)].toArray below meth c H locs 0 0 (MQ below (wq D lo adr n (some (.int (if k_conf S (nI d) = 0 then r_conf S (nI d) else 0))) (fun E2 => RepM cA adr (if k_conf S (nI d) = 0 then S else S) (nI (k_conf S (nI d))) E2 ∧ ∀ j, j < 30 ∨ 45 ≤ j → E2 j = E j)) [.ref (adr 30), .int (nI d)].toArray s 0 0 (fun q => lo ≤ q)) (F0 m 72 ls []) := by
              intro f
              induction f with
              | zero => intro r x4 x5 x6 h0; exact absurd h0 (by omega)
              | succ f ih72 =>
                intro r x4 x5 x6 hf hr2 h4 h5 h6 ls hl
                refine lv_iload hx hb dX4_conflicts_72 (lv_at hl 0 rfl) ?_
                refine lv_aload_n hx hb dX4_conflicts_74 rfl (lv_at hl 4 rfl) ?_
                refine va_get (D := D) (ci := 4) (v := .int (nI (c_ct S))) (C := RX4) (T := TX4) (N := 16) hx hb hG inG_X4 hown hK hP 30 (wl_at (by omega) hM0) rfl 5 (by decide) (hG _ g_498) (fun _ h9 => h9) rfl dX4_conflicts_75 ?_
                refine lv_icmp_ge (tgt := 187) hx hb dX4_conflicts_78 (by decide) (fun c78 => ?_) (fun c78 => ?_)
                · have n78 : (c_ct S) ≤ r := (nI_leI (a := (c_ct S)) (b := r) (by omega) (by omega)).mp c78
                  refine lv_iload_n hx hb dX4_conflicts_187 rfl (lv_at hl 6 rfl) ?_
                  refine lv_iload hx hb dX4_conflicts_188 (lv_at hl 1 rfl) ?_
                  refine lv_if_eq (tgt := 207) hx hb dX4_conflicts_190 (by decide) (fun c190 => ?_) (fun c190 => ?_)
                  · have n190 : x4 = false := bI_0.mp c190
                    have hcs : ctB (fun i => c_see S d i && c_beg S d i) (i + 1) = ctB (fun i => c_see S d i && c_beg S d i) i := ctB_f (by show (c_see S d i && c_beg S d i) = _; rw [cf_eq (show r = c_ct S by omega) h4 h5 h6, n190]; simp)
                    refine lv_iconst (v := 0) hx hb dX4_conflicts_207 (by decide) ?_
                    refine lv_iadd hx hb dX4_conflicts_208 ?_
                    refine lv_topi (fun y9 e9 => ?_)
                    have e9 : y9 = nI ((ctB (fun i => c_see S d i && c_beg S d i) i) + 0) := e9.trans (nI_add (ctB (fun i => c_see S d i && c_beg S d i) i) 0)
                    subst e9
                    refine lv_topi (fun y9 e9 => ?_)
                    have e9 : y9 = nI (ctB (fun i => c_see S d i && c_beg S d i) (i + 1)) := e9.trans (by first | (rw [hcs]; rfl) | rw [hcs])
                    subst e9
                    refine lv_istore_n (lv' := [(2, .int (nI (ctB (fun i => c_see S d i && c_beg S d i) (i + 1)))), (7, .int (nI r)), (4, .int (bI x4)), (5, .int (bI x5)), (6, .int (bI x6)), (0, .ref (adr 30)), (1, .int (nI d)), (3, .int (nI i))]) hx hb dX4_conflicts_209 rfl hl (by decide) rfl (fun ls hl => ?_)
                    refine lv_iinc (v := nI (i + 1)) (lv' := [(3, .int (nI (i + 1))), (2, .int (nI (ctB (fun i => c_see S d i && c_beg S d i) (i + 1)))), (7, .int (nI r)), (4, .int (bI x4)), (5, .int (bI x5)), (6, .int (bI x6)), (0, .ref (adr 30)), (1, .int (nI d))]) hx hb dX4_conflicts_210 hl (k := 7) rfl (nI_1 _) (by decide) rfl (fun ls hl => ?_)
                    refine lv_goto (tgt := 28) hx hb dX4_conflicts_213 (by decide) ?_
                    exact ih28 (i + 1) (by omega) (by omega) ls (lv_sub hl [0, 1, 6, 7] rfl)
                  · have n190 : x4 = true := bI_1.mp c190
                    refine lv_iload hx hb dX4_conflicts_193 (lv_at hl 2 rfl) ?_
                    refine lv_if_eq (tgt := 207) hx hb dX4_conflicts_195 (by decide) (fun c195 => ?_) (fun c195 => ?_)
                    · have n195 : x5 = false := bI_0.mp c195
                      have hcs : ctB (fun i => c_see S d i && c_beg S d i) (i + 1) = ctB (fun i => c_see S d i && c_beg S d i) i := ctB_f (by show (c_see S d i && c_beg S d i) = _; rw [cf_eq (show r = c_ct S by omega) h4 h5 h6, n195]; simp)
                      refine lv_iconst (v := 0) hx hb dX4_conflicts_207 (by decide) ?_
                      refine lv_iadd hx hb dX4_conflicts_208 ?_
                      refine lv_topi (fun y9 e9 => ?_)
                      have e9 : y9 = nI ((ctB (fun i => c_see S d i && c_beg S d i) i) + 0) := e9.trans (nI_add (ctB (fun i => c_see S d i && c_beg S d i) i) 0)
                      subst e9
                      refine lv_topi (fun y9 e9 => ?_)
                      have e9 : y9 = nI (ctB (fun i => c_see S d i && c_beg S d i) (i + 1)) := e9.trans (by first | (rw [hcs]; rfl) | rw [hcs])
                      subst e9
                      refine lv_istore_n (lv' := [(2, .int (nI (ctB (fun i => c_see S d i && c_beg S d i) (i + 1)))), (7, .int (nI r)), (4, .int (bI x4)), (5, .int (bI x5)), (6, .int (bI x6)), (0, .ref (adr 30)), (1, .int (nI d)), (3, .int (nI i))]) hx hb dX4_conflicts_209 rfl hl (by decide) rfl (fun ls hl => ?_)
                      refine lv_iinc (v := nI (i + 1)) (lv' := [(3, .int (nI (i + 1))), (2, .int (nI (ctB (fun i => c_see S d i && c_beg S d i) (i + 1)))), (7, .int (nI r)), (4, .int (bI x4)), (5, .int (bI x5)), (6, .int (bI x6)), (0, .ref (adr 30)), (1, .int (nI d))]) hx hb dX4_conflicts_210 hl (k := 7) rfl (nI_1 _) (by decide) rfl (fun ls hl => ?_)
                      refine lv_goto (tgt := 28) hx hb dX4_conflicts_213 (by decide) ?_
                      exact ih28 (i + 1) (by omega) (by omega) ls (lv_sub hl [0, 1, 6, 7] rfl)
                    · have n195 : x5 = true := bI_1.mp c195
                      refine lv_iload hx hb dX4_conflicts_198 (lv_at hl 3 rfl) ?_
                      refine lv_if_eq (tgt := 207) hx hb dX4_conflicts_200 (by decide) (fun c200 => ?_) (fun c200 => ?_)
                      · have n200 : x6 = false := bI_0.mp c200
                        have hcs : ctB (fun i => c_see S d i && c_beg S d i) (i + 1) = ctB (fun i => c_see S d i && c_beg S d i) i := ctB_f (by show (c_see S d i && c_beg S d i) = _; rw [cf_eq (show r = c_ct S by omega) h4 h5 h6, n200]; simp)
                        refine lv_iconst (v := 0) hx hb dX4_conflicts_207 (by decide) ?_
                        refine lv_iadd hx hb dX4_conflicts_208 ?_
                        refine lv_topi (fun y9 e9 => ?_)
                        have e9 : y9 = nI ((ctB (fun i => c_see S d i && c_beg S d i) i) + 0) := e9.trans (nI_add (ctB (fun i => c_see S d i && c_beg S d i) i) 0)
                        subst e9
                        refine lv_topi (fun y9 e9 => ?_)
                        have e9 : y9 = nI (ctB (fun i => c_see S d i && c_beg S d i) (i + 1)) := e9.trans (by first | (rw [hcs]; rfl) | rw [hcs])
                        subst e9
                        refine lv_istore_n (lv' := [(2, .int (nI (ctB (fun i => c_see S d i && c_beg S d i) (i + 1)))), (7, .int (nI r)), (4, .int (bI x4)), (5, .int (bI x5)), (6, .int (bI x6)), (0, .ref (adr 30)), (1, .int (nI d)), (3, .int (nI i))]) hx hb dX4_conflicts_209 rfl hl (by decide) rfl (fun ls hl => ?_)
                        refine lv_iinc (v := nI (i + 1)) (lv' := [(3, .int (nI (i + 1))), (2, .int (nI (ctB (fun i => c_see S d i && c_beg S d i) (i + 1)))), (7, .int (nI r)), (4, .int (bI x4)), (5, .int (bI x5)), (6, .int (bI x6)), (0, .ref (adr 30)), (1, .int (nI d))]) hx hb dX4_conflicts_210 hl (k := 7) rfl (nI_1 _) (by decide) rfl (fun ls hl => ?_)
                        refine lv_goto (tgt := 28) hx hb dX4_conflicts_213 (by decide) ?_
                        exact ih28 (i + 1) (by omega) (by omega) ls (lv_sub hl [0, 1, 6, 7] rfl)
                      · have n200 : x6 = true := bI_1.mp c200
                        have hcs : ctB (fun i => c_see S d i && c_beg S d i) (i + 1) = ctB (fun i => c_see S d i && c_beg S d i) i + 1 := ctB_t (by show (c_see S d i && c_beg S d i) = _; rw [cf_eq (show r = c_ct S by omega) h4 h5 h6, n190, n195, n200]; rfl)
                        refine lv_iconst (v := 1) hx hb dX4_conflicts_203 (by decide) ?_
                        refine lv_goto (tgt := 208) hx hb dX4_conflicts_204 (by decide) ?_
                        refine lv_iadd hx hb dX4_conflicts_208 ?_
                        refine lv_topi (fun y9 e9 => ?_)
                        have e9 : y9 = nI ((ctB (fun i => c_see S d i && c_beg S d i) i) + 1) := e9.trans (nI_add (ctB (fun i => c_see S d i && c_beg S d i) i) 1)
                        subst e9
                        refine lv_topi (fun y9 e9 => ?_)
                        have e9 : y9 = nI (ctB (fun i => c_see S d i && c_beg S d i) (i + 1)) := e9.trans (by first | (rw [hcs]; rfl) | rw [hcs])
                        subst e9
                        refine lv_istore_n (lv' := [(2, .int (nI (ctB (fun i => c_see S d i && c_beg S d i) (i + 1)))), (7, .int (nI r)), (4, .int (bI x4)), (5, .int (bI x5)), (6, .int (bI x6)), (0, .ref (adr 30)), (1, .int (nI d)), (3, .int (nI i))]) hx hb dX4_conflicts_209 rfl hl (by decide) rfl (fun ls hl => ?_)
                        refine lv_iinc (v := nI (i + 1)) (lv' := [(3, .int (nI (i + 1))), (2, .int (nI (ctB (fun i => c_see S d i && c_beg S d i) (i + 1)))), (7, .int (nI r)), (4, .int (bI x4)), (5, .int (bI x5)), (6, .int (bI x6)), (0, .ref (adr 30)), (1, .int (nI d))]) hx hb dX4_conflicts_210 hl (k := 7) rfl (nI_1 _) (by decide) rfl (fun ls hl => ?_)
                        refine lv_goto (tgt := 28) hx hb dX4_conflicts_213 (by decide) ?_
                        exact ih28 (i + 1) (by omega) (by omega) ls (lv_sub hl [0, 1, 6, 7] rfl)
                · have n78 : ¬ (c_ct S) ≤ r := fun h7 => c78 ((nI_leI (a := (c_ct S)) (b := r) (by omega) (by omega)).mpr h7)
                  have J154 : ∀ (x8 : Bool) (y4 : Bool) (y5 : Bool), (c_rv S i r && c_see S d r) = x8 → (c_see S d i && !anB (fun r => c_rv S i r && c_see S d r && decide (r < i)) (r + 1)) = y4 → anB (fun r => c_rv S i r && c_see S d r) (r + 1) = y5 → ∀ ls : Array Slot, lv_has ls 9 [(8, .int (bI x8)), (4, .int (bI y4)), (5, .int (bI y5)), (6, .int (bI x6)), (7, .int (nI r)), (0, .ref (adr 30)), (1, .int (nI d)), (2, .int (nI (ctB (fun i => c_see S d i && c_beg S d i) i))), (3, .int (nI i))] → W p l e (headSpec (.code yX4_conflicts cX4_conflicts 9 (some .int) :: lw_G) ({ frames := 2, cells := 0, slots := 0, locals := 46 } : Room)).room s m [.ref (adr 30), .int (nI d)].toArray below meth c H locs 0 0 (MQ below (wq D lo adr n (some (.int (if k_conf S (nI d) = 0 then r_conf S (nI d) else 0))) (fun E2 => RepM cA adr (if k_conf S (nI d) = 0 then S else S) (nI (k_conf S (nI d))) E2 ∧ ∀ j, j < 30 ∨ 45 ≤ j → E2 j = E j)) [.ref (adr 30), .int (nI d)].toArray s 0 0 (fun q => lo ≤ q)) (F0 m 154 ls []) := by
                    intro x8 y4 y5 h8 g4 g5 ls hl
                    refine lv_iload hx hb dX4_conflicts_154 (lv_at hl 3 rfl) ?_
                    refine lv_if_eq (tgt := 178) hx hb dX4_conflicts_156 (by decide) (fun c156 => ?_) (fun c156 => ?_)
                    · have n156 : x6 = false := bI_0.mp c156
                      refine lv_iconst (v := 0) hx hb dX4_conflicts_178 (by decide) ?_
                      refine lv_istore (lv' := [(6, .int 0), (8, .int (bI x8)), (4, .int (bI y4)), (5, .int (bI y5)), (7, .int (nI r)), (0, .ref (adr 30)), (1, .int (nI d)), (2, .int (nI (ctB (fun i => c_see S d i && c_beg S d i) i))), (3, .int (nI i))]) hx hb dX4_conflicts_179 hl (by decide) rfl (fun ls hl => ?_)
                      refine lv_iinc (v := nI (r + 1)) (lv' := [(7, .int (nI (r + 1))), (6, .int 0), (8, .int (bI x8)), (4, .int (bI y4)), (5, .int (bI y5)), (0, .ref (adr 30)), (1, .int (nI d)), (2, .int (nI (ctB (fun i => c_see S d i && c_beg S d i) i))), (3, .int (nI i))]) hx hb dX4_conflicts_181 hl (k := 4) rfl (nI_1 _) (by decide) rfl (fun ls hl => ?_)
                      refine lv_goto (tgt := 72) hx hb dX4_conflicts_184 (by decide) ?_
                      exact ih72 (r + 1) y4 y5 false (by omega) (by omega) g4 g5 (by show (!c_sd S i && !(anB (fun r => c_rv S i r && c_see S d r && c_sd S r) r || (c_rv S i r && c_see S d r && c_sd S r))) = _; rw [h8, Bool.not_or, ← Bool.and_assoc, h6]; first | (rw [n156]; rfl) | (rw [n156, n161]; rfl) | (rw [n156, n161, n171]; rfl)) ls (lv_sub hl [0, 3, 4, 1, 5, 6, 7, 8] rfl)
                    · have n156 : x6 = true := bI_1.mp c156
                      refine lv_iload hx hb dX4_conflicts_159 (lv_at hl 0 rfl) ?_
                      refine lv_if_eq (tgt := 174) hx hb dX4_conflicts_161 (by decide) (fun c161 => ?_) (fun c161 => ?_)
                      · have n161 : x8 = false := bI_0.mp c161
                        refine lv_iconst (v := 1) hx hb dX4_conflicts_174 (by decide) ?_
                        refine lv_goto (tgt := 179) hx hb dX4_conflicts_175 (by decide) ?_
                        refine lv_istore (lv' := [(6, .int 1), (8, .int (bI x8)), (4, .int (bI y4)), (5, .int (bI y5)), (7, .int (nI r)), (0, .ref (adr 30)), (1, .int (nI d)), (2, .int (nI (ctB (fun i => c_see S d i && c_beg S d i) i))), (3, .int (nI i))]) hx hb dX4_conflicts_179 hl (by decide) rfl (fun ls hl => ?_)
                        refine lv_iinc (v := nI (r + 1)) (lv' := [(7, .int (nI (r + 1))), (6, .int 1), (8, .int (bI x8)), (4, .int (bI y4)), (5, .int (bI y5)), (0, .ref (adr 30)), (1, .int (nI d)), (2, .int (nI (ctB (fun i => c_see S d i && c_beg S d i) i))), (3, .int (nI i))]) hx hb dX4_conflicts_181 hl (k := 4) rfl (nI_1 _) (by decide) rfl (fun ls hl => ?_)
                        refine lv_goto (tgt := 72) hx hb dX4_conflicts_184 (by decide) ?_
                        exact ih72 (r + 1) y4 y5 true (by omega) (by omega) g4 g5 (by show (!c_sd S i && !(anB (fun r => c_rv S i r && c_see S d r && c_sd S r) r || (c_rv S i r && c_see S d r && c_sd S r))) = _; rw [h8, Bool.not_or, ← Bool.and_assoc, h6]; first | (rw [n156]; rfl) | (rw [n156, n161]; rfl) | (rw [n156, n161, n171]; rfl)) ls (lv_sub hl [0, 3, 4, 1, 5, 6, 7, 8] rfl)
                      · have n161 : x8 = true := bI_1.mp c161
                        refine lv_aload_n hx hb dX4_conflicts_164 rfl (lv_at hl 5 rfl) ?_
                        refine va_get (D := D) (ci := 4) (v := .ref (adr 41)) (C := RX4) (T := TX4) (N := 16) hx hb hG inG_X4 hown hK hP 30 (wl_at (by omega) hM0) rfl 12 (by decide) (hG _ g_505) (fun _ h9 => h9) rfl dX4_conflicts_165 ?_
                        refine lv_iload hx hb dX4_conflicts_168 (lv_at hl 4 rfl) ?_
                        refine wn_zald (j := r) hx hb hK hP (by omega) hM11 (by omega) (by decide) dX4_conflicts_170 ?_
                        refine lv_if_ne (tgt := 178) hx hb dX4_conflicts_171 (by decide) (fun c171 => ?_) (fun c171 => ?_)
                        · have n171 : (c_sd S r) = true := bI_1.mp c171
                          refine lv_iconst (v := 0) hx hb dX4_conflicts_178 (by decide) ?_
                          refine lv_istore (lv' := [(6, .int 0), (8, .int (bI x8)), (4, .int (bI y4)), (5, .int (bI y5)), (7, .int (nI r)), (0, .ref (adr 30)), (1, .int (nI d)), (2, .int (nI (ctB (fun i => c_see S d i && c_beg S d i) i))), (3, .int (nI i))]) hx hb dX4_conflicts_179 hl (by decide) rfl (fun ls hl => ?_)
                          refine lv_iinc (v := nI (r + 1)) (lv' := [(7, .int (nI (r + 1))), (6, .int 0), (8, .int (bI x8)), (4, .int (bI y4)), (5, .int (bI y5)), (0, .ref (adr 30)), (1, .int (nI d)), (2, .int (nI (ctB (fun i => c_see S d i && c_beg S d i) i))), (3, .int (nI i))]) hx hb dX4_conflicts_181 hl (k := 4) rfl (nI_1 _) (by decide) rfl (fun ls hl => ?_)
                          refine lv_goto (tgt := 72) hx hb dX4_conflicts_184 (by decide) ?_
                          exact ih72 (r + 1) y4 y5 false (by omega) (by omega) g4 g5 (by show (!c_sd S i && !(anB (fun r => c_rv S i r && c_see S d r && c_sd S r) r || (c_rv S i r && c_see S d r && c_sd S r))) = _; rw [h8, Bool.not_or, ← Bool.and_assoc, h6]; first | (rw [n156]; rfl) | (rw [n156, n161]; rfl) | (rw [n156, n161, n171]; rfl)) ls (lv_sub hl [0, 3, 4, 1, 5, 6, 7, 8] rfl)
                        · have n171 : (c_sd S r) = false := bI_0.mp c171
                          refine lv_iconst (v := 1) hx hb dX4_conflicts_174 (by decide) ?_
                          refine lv_goto (tgt := 179) hx hb dX4_conflicts_175 (by decide) ?_
                          refine lv_istore (lv' := [(6, .int 1), (8, .int (bI x8)), (4, .int (bI y4)), (5, .int (bI y5)), (7, .int (nI r)), (0, .ref (adr 30)), (1, .int (nI d)), (2, .int (nI (ctB (fun i => c_see S d i && c_beg S d i) i))), (3, .int (nI i))]) hx hb dX4_conflicts_179 hl (by decide) rfl (fun ls hl => ?_)
                          refine lv_iinc (v := nI (r + 1)) (lv' := [(7, .int (nI (r + 1))), (6, .int 1), (8, .int (bI x8)), (4, .int (bI y4)), (5, .int (bI y5)), (0, .ref (adr 30)), (1, .int (nI d)), (2, .int (nI (ctB (fun i => c_see S d i && c_beg S d i) i))), (3, .int (nI i))]) hx hb dX4_conflicts_181 hl (k := 4) rfl (nI_1 _) (by decide) rfl (fun ls hl => ?_)
                          refine lv_goto (tgt := 72) hx hb dX4_conflicts_184 (by decide) ?_
                          exact ih72 (r + 1) y4 y5 true (by omega) (by omega) g4 g5 (by show (!c_sd S i && !(anB (fun r => c_rv S i r && c_see S d r && c_sd S r) r || (c_rv S i r && c_see S d r && c_sd S r))) = _; rw [h8, Bool.not_or, ← Bool.and_assoc, h6]; first | (rw [n156]; rfl) | (rw [n156, n161]; rfl) | (rw [n156, n161, n171]; rfl)) ls (lv_sub hl [0, 3, 4, 1, 5, 6, 7, 8] rfl)
                  have J137 : ∀ (x8 : Bool) (y4 : Bool), (c_rv S i r && c_see S d r) = x8 → (c_see S d i && !anB (fun r => c_rv S i r && c_see S d r && decide (r < i)) (r + 1)) = y4 → ∀ ls : Array Slot, lv_has ls 9 [(8, .int (bI x8)), (4, .int (bI y4)), (5, .int (bI x5)), (6, .int (bI x6)), (7, .int (nI r)), (0, .ref (adr 30)), (1, .int (nI d)), (2, .int (nI (ctB (fun i => c_see S d i && c_beg S d i) i))), (3, .int (nI i))] → W p l e (headSpec (.code yX4_conflicts cX4_conflicts 9 (some .int) :: lw_G) ({ frames := 2, cells := 0, slots := 0, locals := 46 } : Room)).room s m [.ref (adr 30), .int (nI d)].toArray below meth c H locs 0 0 (MQ below (wq D lo adr n (some (.int (if k_conf S (nI d) = 0 then r_conf S (nI d) else 0))) (fun E2 => RepM cA adr (if k_conf S (nI d) = 0 then S else S) (nI (k_conf S (nI d))) E2 ∧ ∀ j, j < 30 ∨ 45 ≤ j → E2 j = E j)) [.ref (adr 30), .int (nI d)].toArray s 0 0 (fun q => lo ≤ q)) (F0 m 137 ls []) := by
                    intro x8 y4 h8 g4 ls hl
                    refine lv_iload hx hb dX4_conflicts_137 (lv_at hl 2 rfl) ?_
                    refine lv_if_ne (tgt := 147) hx hb dX4_conflicts_139 (by decide) (fun c139 => ?_) (fun c139 => ?_)
                    · have n139 : x5 = true := bI_1.mp c139
                      refine lv_iconst (v := 1) hx hb dX4_conflicts_147 (by decide) ?_
                      refine lv_goto (tgt := 152) hx hb dX4_conflicts_148 (by decide) ?_
                      refine lv_istore (lv' := [(5, .int 1), (8, .int (bI x8)), (4, .int (bI y4)), (6, .int (bI x6)), (7, .int (nI r)), (0, .ref (adr 30)), (1, .int (nI d)), (2, .int (nI (ctB (fun i => c_see S d i && c_beg S d i) i))), (3, .int (nI i))]) hx hb dX4_conflicts_152 hl (by decide) rfl (fun ls hl => ?_)
                      exact J154 x8 y4 true h8 g4 (by show (anB (fun r => c_rv S i r && c_see S d r) r || (c_rv S i r && c_see S d r)) = _; rw [h5, h8]; first | (rw [n139]; rfl) | (rw [n139, n144]; rfl)) ls (lv_sub hl [1, 2, 0, 3, 4, 5, 6, 7, 8] rfl)
                    · have n139 : x5 = false := bI_0.mp c139
                      refine lv_iload hx hb dX4_conflicts_142 (lv_at hl 0 rfl) ?_
                      refine lv_if_eq (tgt := 151) hx hb dX4_conflicts_144 (by decide) (fun c144 => ?_) (fun c144 => ?_)
                      · have n144 : x8 = false := bI_0.mp c144
                        refine lv_iconst (v := 0) hx hb dX4_conflicts_151 (by decide) ?_
                        refine lv_istore (lv' := [(5, .int 0), (8, .int (bI x8)), (4, .int (bI y4)), (6, .int (bI x6)), (7, .int (nI r)), (0, .ref (adr 30)), (1, .int (nI d)), (2, .int (nI (ctB (fun i => c_see S d i && c_beg S d i) i))), (3, .int (nI i))]) hx hb dX4_conflicts_152 hl (by decide) rfl (fun ls hl => ?_)
                        exact J154 x8 y4 false h8 g4 (by show (anB (fun r => c_rv S i r && c_see S d r) r || (c_rv S i r && c_see S d r)) = _; rw [h5, h8]; first | (rw [n139]; rfl) | (rw [n139, n144]; rfl)) ls (lv_sub hl [1, 2, 0, 3, 4, 5, 6, 7, 8] rfl)
                      · have n144 : x8 = true := bI_1.mp c144
                        refine lv_iconst (v := 1) hx hb dX4_conflicts_147 (by decide) ?_
                        refine lv_goto (tgt := 152) hx hb dX4_conflicts_148 (by decide) ?_
                        refine lv_istore (lv' := [(5, .int 1), (8, .int (bI x8)), (4, .int (bI y4)), (6, .int (bI x6)), (7, .int (nI r)), (0, .ref (adr 30)), (1, .int (nI d)), (2, .int (nI (ctB (fun i => c_see S d i && c_beg S d i) i))), (3, .int (nI i))]) hx hb dX4_conflicts_152 hl (by decide) rfl (fun ls hl => ?_)
                        exact J154 x8 y4 true h8 g4 (by show (anB (fun r => c_rv S i r && c_see S d r) r || (c_rv S i r && c_see S d r)) = _; rw [h5, h8]; first | (rw [n139]; rfl) | (rw [n139, n144]; rfl)) ls (lv_sub hl [1, 2, 0, 3, 4, 5, 6, 7, 8] rfl)
                  have J114 : ∀ (x8 : Bool), (c_rv S i r && c_see S d r) = x8 → ∀ ls : Array Slot, lv_has ls 9 [(8, .int (bI x8)), (4, .int (bI x4)), (5, .int (bI x5)), (6, .int (bI x6)), (7, .int (nI r)), (0, .ref (adr 30)), (1, .int (nI d)), (2, .int (nI (ctB (fun i => c_see S d i && c_beg S d i) i))), (3, .int (nI i))] → W p l e (headSpec (.code yX4_conflicts cX4_conflicts 9 (some .int) :: lw_G) ({ frames := 2, cells := 0, slots := 0, locals := 46 } : Room)).room s m [.ref (adr 30), .int (nI d)].toArray below meth c H locs 0 0 (MQ below (wq D lo adr n (some (.int (if k_conf S (nI d) = 0 then r_conf S (nI d) else 0))) (fun E2 => RepM cA adr (if k_conf S (nI d) = 0 then S else S) (nI (k_conf S (nI d))) E2 ∧ ∀ j, j < 30 ∨ 45 ≤ j → E2 j = E j)) [.ref (adr 30), .int (nI d)].toArray s 0 0 (fun q => lo ≤ q)) (F0 m 114 ls []) := by
                    intro x8 h8 ls hl
                    refine lv_iload hx hb dX4_conflicts_114 (lv_at hl 1 rfl) ?_
                    refine lv_if_eq (tgt := 134) hx hb dX4_conflicts_116 (by decide) (fun c116 => ?_) (fun c116 => ?_)
                    · have n116 : x4 = false := bI_0.mp c116
                      refine lv_iconst (v := 0) hx hb dX4_conflicts_134 (by decide) ?_
                      refine lv_istore (lv' := [(4, .int 0), (8, .int (bI x8)), (5, .int (bI x5)), (6, .int (bI x6)), (7, .int (nI r)), (0, .ref (adr 30)), (1, .int (nI d)), (2, .int (nI (ctB (fun i => c_see S d i && c_beg S d i) i))), (3, .int (nI i))]) hx hb dX4_conflicts_135 hl (by decide) rfl (fun ls hl => ?_)
                      exact J137 x8 false h8 (by show (c_see S d i && !(anB (fun r => c_rv S i r && c_see S d r && decide (r < i)) r || (c_rv S i r && c_see S d r && decide (r < i)))) = _; rw [h8, Bool.not_or, ← Bool.and_assoc, h4]; first | (rw [n116]; rfl) | (rw [n116, n121]; rfl) | (rw [n116, n121, decide_eq_true (show r < i by omega)]; rfl) | (rw [n116, n121, decide_eq_false (show ¬ r < i by omega)]; rfl)) ls (lv_sub hl [1, 0, 2, 3, 4, 5, 6, 7, 8] rfl)
                    · have n116 : x4 = true := bI_1.mp c116
                      refine lv_iload hx hb dX4_conflicts_119 (lv_at hl 0 rfl) ?_
                      refine lv_if_eq (tgt := 130) hx hb dX4_conflicts_121 (by decide) (fun c121 => ?_) (fun c121 => ?_)
                      · have n121 : x8 = false := bI_0.mp c121
                        refine lv_iconst (v := 1) hx hb dX4_conflicts_130 (by decide) ?_
                        refine lv_goto (tgt := 135) hx hb dX4_conflicts_131 (by decide) ?_
                        refine lv_istore (lv' := [(4, .int 1), (8, .int (bI x8)), (5, .int (bI x5)), (6, .int (bI x6)), (7, .int (nI r)), (0, .ref (adr 30)), (1, .int (nI d)), (2, .int (nI (ctB (fun i => c_see S d i && c_beg S d i) i))), (3, .int (nI i))]) hx hb dX4_conflicts_135 hl (by decide) rfl (fun ls hl => ?_)
                        exact J137 x8 true h8 (by show (c_see S d i && !(anB (fun r => c_rv S i r && c_see S d r && decide (r < i)) r || (c_rv S i r && c_see S d r && decide (r < i)))) = _; rw [h8, Bool.not_or, ← Bool.and_assoc, h4]; first | (rw [n116]; rfl) | (rw [n116, n121]; rfl) | (rw [n116, n121, decide_eq_true (show r < i by omega)]; rfl) | (rw [n116, n121, decide_eq_false (show ¬ r < i by omega)]; rfl)) ls (lv_sub hl [1, 0, 2, 3, 4, 5, 6, 7, 8] rfl)
                      · have n121 : x8 = true := bI_1.mp c121
                        refine lv_iload hx hb dX4_conflicts_124 (lv_at hl 4 rfl) ?_
                        refine lv_iload_n hx hb dX4_conflicts_126 rfl (lv_at hl 8 rfl) ?_
                        refine lv_icmp_lt (tgt := 134) hx hb dX4_conflicts_127 (by decide) (fun c127 => ?_) (fun c127 => ?_)
                        · have n127 : r < i := (nI_ltI (a := r) (b := i) (by omega) (by omega)).mp c127
                          refine lv_iconst (v := 0) hx hb dX4_conflicts_134 (by decide) ?_
                          refine lv_istore (lv' := [(4, .int 0), (8, .int (bI x8)), (5, .int (bI x5)), (6, .int (bI x6)), (7, .int (nI r)), (0, .ref (adr 30)), (1, .int (nI d)), (2, .int (nI (ctB (fun i => c_see S d i && c_beg S d i) i))), (3, .int (nI i))]) hx hb dX4_conflicts_135 hl (by decide) rfl (fun ls hl => ?_)
                          exact J137 x8 false h8 (by show (c_see S d i && !(anB (fun r => c_rv S i r && c_see S d r && decide (r < i)) r || (c_rv S i r && c_see S d r && decide (r < i)))) = _; rw [h8, Bool.not_or, ← Bool.and_assoc, h4]; first | (rw [n116]; rfl) | (rw [n116, n121]; rfl) | (rw [n116, n121, decide_eq_true (show r < i by omega)]; rfl) | (rw [n116, n121, decide_eq_false (show ¬ r < i by omega)]; rfl)) ls (lv_sub hl [1, 0, 2, 3, 4, 5, 6, 7, 8] rfl)
                        · have n127 : ¬ r < i := fun h7 => c127 ((nI_ltI (a := r) (b := i) (by omega) (by omega)).mpr h7)
                          refine lv_iconst (v := 1) hx hb dX4_conflicts_130 (by decide) ?_
                          refine lv_goto (tgt := 135) hx hb dX4_conflicts_131 (by decide) ?_
                          refine lv_istore (lv' := [(4, .int 1), (8, .int (bI x8)), (5, .int (bI x5)), (6, .int (bI x6)), (7, .int (nI r)), (0, .ref (adr 30)), (1, .int (nI d)), (2, .int (nI (ctB (fun i => c_see S d i && c_beg S d i) i))), (3, .int (nI i))]) hx hb dX4_conflicts_135 hl (by decide) rfl (fun ls hl => ?_)
                          exact J137 x8 true h8 (by show (c_see S d i && !(anB (fun r => c_rv S i r && c_see S d r && decide (r < i)) r || (c_rv S i r && c_see S d r && decide (r < i)))) = _; rw [h8, Bool.not_or, ← Bool.and_assoc, h4]; first | (rw [n116]; rfl) | (rw [n116, n121]; rfl) | (rw [n116, n121, decide_eq_true (show r < i by omega)]; rfl) | (rw [n116, n121, decide_eq_false (show ¬ r < i by omega)]; rfl)) ls (lv_sub hl [1, 0, 2, 3, 4, 5, 6, 7, 8] rfl)
                  refine lv_aload_n hx hb dX4_conflicts_81 rfl (lv_at hl 4 rfl) ?_
                  refine lv_iload_n hx hb dX4_conflicts_82 rfl (lv_at hl 7 rfl) ?_
                  refine lv_iload hx hb dX4_conflicts_83 (lv_at hl 0 rfl) ?_
                  refine wn_rV (rest := []) hx hb hml hown hG hN hP (cX4_areRivals_r hn hV hR (i := i) (j := r) (by omega) (by omega)) (cwV 2 hG (gV g_587 g_589 gp_X4_areRivals g_5 g_590) rfl rfl rfl (by decide +kernel) ⟨Nat.le_of_ble_eq_true rfl, Nat.le_of_ble_eq_true rfl⟩) (by omega) hM0 rfl rfl hl.1 rfl (Nat.le_of_ble_eq_true rfl) dX4_conflicts_85 ⟨Nat.le_of_ble_eq_true rfl, Nat.le_of_ble_eq_true rfl⟩ ?_
                  refine lv_if_eq (tgt := 111) hx hb dX4_conflicts_88 (by decide) (fun c88 => ?_) (fun c88 => ?_)
                  · have n88 : (c_rv S i r) = false := bI_0.mp c88
                    refine lv_iconst (v := 0) hx hb dX4_conflicts_111 (by decide) ?_
                    refine lv_istore (lv' := [(8, .int 0), (7, .int (nI r)), (4, .int (bI x4)), (5, .int (bI x5)), (6, .int (bI x6)), (0, .ref (adr 30)), (1, .int (nI d)), (2, .int (nI (ctB (fun i => c_see S d i && c_beg S d i) i))), (3, .int (nI i))]) hx hb dX4_conflicts_112 hl (by decide) rfl (fun ls hl => ?_)
                    exact J114 false (by first | (rw [n88]; rfl) | (rw [n88, n104]; rfl)) ls (lv_sub hl [0, 2, 3, 4, 1, 5, 6, 7, 8] rfl)
                  · have n88 : (c_rv S i r) = true := bI_1.mp c88
                    refine lv_aload_n hx hb dX4_conflicts_91 rfl (lv_at hl 4 rfl) ?_
                    refine lv_iload_n hx hb dX4_conflicts_92 rfl (lv_at hl 5 rfl) ?_
                    refine lv_iload hx hb dX4_conflicts_93 (lv_at hl 0 rfl) ?_
                    refine lv_aload_n hx hb dX4_conflicts_95 rfl (lv_at hl 4 rfl) ?_
                    refine va_get (D := D) (ci := 4) (v := .ref (adr 43)) (C := RX4) (T := TX4) (N := 16) hx hb hG inG_X4 hown hK hP 30 (wl_at (by omega) hM0) rfl 14 (by decide) (hG _ g_507) (fun _ h9 => h9) rfl dX4_conflicts_96 ?_
                    refine lv_iload_n hx hb dX4_conflicts_99 rfl (lv_at hl 5 rfl) ?_
                    refine wn_iald (j := d) hx hb hK hP (by omega) hM13 (by omega) (by decide) dX4_conflicts_100 ?_
                    refine wn_rV (rest := []) hx hb hml hown hG hN hP (cX4_sees_r hn hV hR (d := d) (j := r) hd (by omega) (c_mt S d)) (cwV 3 hG (gV g_611 g_613 gp_X4_sees g_5 g_614) rfl rfl rfl (by decide +kernel) ⟨Nat.le_of_ble_eq_true rfl, Nat.le_of_ble_eq_true rfl⟩) (by omega) hM0 rfl rfl hl.1 rfl (Nat.le_of_ble_eq_true rfl) dX4_conflicts_101 ⟨Nat.le_of_ble_eq_true rfl, Nat.le_of_ble_eq_true rfl⟩ ?_
                    refine lv_topi (fun y9 e9 => ?_)
                    have e9 : y9 = bI (c_see S d r) := e9.trans (congrArg bI (had_see hV hd))
                    subst e9
                    refine lv_if_eq (tgt := 111) hx hb dX4_conflicts_104 (by decide) (fun c104 => ?_) (fun c104 => ?_)
                    · have n104 : (c_see S d r) = false := bI_0.mp c104
                      refine lv_iconst (v := 0) hx hb dX4_conflicts_111 (by decide) ?_
                      refine lv_istore (lv' := [(8, .int 0), (7, .int (nI r)), (4, .int (bI x4)), (5, .int (bI x5)), (6, .int (bI x6)), (0, .ref (adr 30)), (1, .int (nI d)), (2, .int (nI (ctB (fun i => c_see S d i && c_beg S d i) i))), (3, .int (nI i))]) hx hb dX4_conflicts_112 hl (by decide) rfl (fun ls hl => ?_)
                      exact J114 false (by first | (rw [n88]; rfl) | (rw [n88, n104]; rfl)) ls (lv_sub hl [0, 2, 3, 4, 1, 5, 6, 7, 8] rfl)
                    · have n104 : (c_see S d r) = true := bI_1.mp c104
                      refine lv_iconst (v := 1) hx hb dX4_conflicts_107 (by decide) ?_
                      refine lv_goto (tgt := 112) hx hb dX4_conflicts_108 (by decide) ?_
                      refine lv_istore (lv' := [(8, .int 1), (7, .int (nI r)), (4, .int (bI x4)), (5, .int (bI x5)), (6, .int (bI x6)), (0, .ref (adr 30)), (1, .int (nI d)), (2, .int (nI (ctB (fun i => c_see S d i && c_beg S d i) i))), (3, .int (nI i))]) hx hb dX4_conflicts_112 hl (by decide) rfl (fun ls hl => ?_)
                      exact J114 true (by first | (rw [n88]; rfl) | (rw [n88, n104]; rfl)) ls (lv_sub hl [0, 2, 3, 4, 1, 5, 6, 7, 8] rfl)
            exact L72 (c_ct S + 1) 0 (c_see S d i) false true (by omega) (by omega) (Bool.and_true _) rfl (by rw [n59]; rfl) ls (lv_sub hl [0, 3, 2, 1, 6, 7, 5, 4] rfl)
    exact L28 (c_ct S + 1) 0 (by omega) (by omega) ls (lv_sub hl [0, 1, 2, 3] rfl)
  · have n5 : (inN dd 3) = false := bI_0.mp c5
    refine lv_iconst (v := 1) hx hb dX4_conflicts_8 (by decide) ?_
    refine lv_goto (tgt := 13) hx hb dX4_conflicts_9 (by decide) ?_
    refine lv_iconst (v := 0) hx hb dX4_conflicts_13 (by decide) ?_
    refine lv_iconst (v := 0) hx hb dX4_conflicts_14 (by decide) ?_
    refine lv_iconst (v := 0) hx hb dX4_conflicts_15 (by decide) ?_
    refine wn_wV (rest := []) hx hb hml hown hG hN hP hS (cX4_throwing_w hAd hn hV hR true false false false) (cwV 4 hG (gV g_557 g_559 gp_X4_throwing g_5 g_560) rfl rfl rfl (by decide +kernel) ⟨Nat.le_of_ble_eq_true rfl, Nat.le_of_ble_eq_true rfl⟩) (by omega) hM0 rfl rfl hl.1 rfl (Nat.le_of_ble_eq_true rfl) dX4_conflicts_16 ⟨Nat.le_of_ble_eq_true rfl, Nat.le_of_ble_eq_true rfl⟩ (fun F2 H locs hFF hP hS => ?_)
    obtain ⟨hR, fF⟩ := hFF
    have h45 : ∀ j, j < 30 ∨ 45 ≤ j → F2 j = E j := fun j hj => (fF j (by omega)).trans (h45 j hj)
    obtain ⟨hM0, hM1, hM2, hM3, hM4, hM5, hM6, hM7, hM8, hM9, hM10, hM11, hM12, hM13, hM14⟩ := id hR
    refine lv_if_eq (tgt := 24) hx hb dX4_conflicts_19 (by decide) (fun c19 => absurd c19 (by decide)) (fun c19 => ?_)
    refine lv_iconst (v := 0) hx hb dX4_conflicts_22 (by decide) ?_
    have hk : k_conf S dd = 1 := by unfold k_conf; rw [n5]; rfl
    exact W.iret (v := 0) hx hb hr (fun u9 ht _ => ⟨(by rw [hk]; rfl), F2, ⟨by rw [hk]; exact hR, h45⟩, by rw [ht]; exact hP, hS.F ht⟩) hS.2.2 dX4_conflicts_23

set_option maxHeartbeats 4000000 in
set_option maxRecDepth 100000 in
theorem cX4_settle_w {l : Launch} {D : va_G} {cA : Nat → ClassId} {adr : Nat → Nat} {n : Nat} {E : Nat → va_E} {lo : Nat} (hAd : wd_ad lo n adr) {S : CS} {th : Int32} (hn : 45 ≤ n) (hV : Inv S) (hR : RepM cA adr S th E) (x k : Int32) : Met l yX4_settle (.code yX4_settle cX4_settle 9 (some .int) :: lw_G) ({ frames := 1, cells := 0, slots := 0, locals := 24 } : Room) (va_Pc [.ref (adr 30), .int x, .int k] (wdU D (kty cA) adr n E)) (wq D lo adr n (some (.int (if k_set S x k = 0 then r_set S x k else 0))) (fun E2 => RepM cA adr (if k_set S x k = 0 then s_set S x k else S) (nI (k_set S x k)) E2 ∧ ∀ j, j < 30 ∨ 45 ≤ j → E2 j = E j)) 0 0 (fun q => lo ≤ q) := by
  refine Met.ofW (cc := cX4_settle) (maxL := 9) (ret := (some .int)) (by decide) rfl ?_
  intro p e s m args below meth c s₁ B hml hv
  obtain ⟨rfl, hP, hN⟩ := hv
  have hx := B.exec
  have hb := B.bytes
  have hr := B.returns
  have hG : ∀ w ∈ lw_G, w.before _ s = true := fun w h => atoms_spec (ws := _ :: lw_G) B.pre w (List.mem_cons_of_mem _ h)
  have hown : s.vm.findClass RX4 = some m.cls := findClass_of_methodNamed B.named
  have hlocks := B.notSynchronized
  have hK := hN.1
  have hS : va_S (fun q => lo ≤ q) s.heap s.heap [] := va_S.rf
  have hF : ∀ j, j ≠ 30 → E j = E j := fun j _ => rfl
  have hl := lv_entry ([.ref (adr 30), .int x, .int k]) (n := 9) (Nat.le_of_ble_eq_true rfl)
  rw [lg_entry_eq]
  generalize (lg_sl ([.ref (adr 30), .int x, .int k]) ++ List.replicate (9 - (lg_sl ([.ref (adr 30), .int x, .int k])).length) Slot.unset).toArray = ls at hl ⊢
  have hl : lv_has ls 9 [(0, .ref (adr 30)), (1, .int x), (2, .int k)] := hl
  obtain ⟨hM0, hM1, hM2, hM3, hM4, hM5, hM6, hM7, hM8, hM9, hM10, hM11, hM12, hM13, hM14⟩ := id hR
  obtain ⟨hct, hnm, htd, hmk, hlf, hnt, hnu, hcn, hmz, hmm, hib, hmr, hrise⟩ := id hV
  have h45 : ∀ j, j < 30 ∨ 45 ≤ j → E j = E j := fun _ _ => rfl
  refine lv_iload_n hx hb dX4_settle_0 rfl (lv_at hl 1 rfl) ?_
  refine lv_bipush (v := 127) hx hb dX4_settle_1 (by decide) ?_
  refine lv_iand hx hb dX4_settle_3 ?_
  refine lv_istore_n (lv' := [(3, .int (x &&& 127)), (0, .ref (adr 30)), (1, .int x), (2, .int k)]) hx hb dX4_settle_4 rfl hl (by decide) rfl (fun ls hl => ?_)
  refine lv_iload_n hx hb dX4_settle_5 rfl (lv_at hl 2 rfl) ?_
  refine lv_bipush (v := 7) hx hb dX4_settle_6 (by decide) ?_
  refine lv_ishr hx hb dX4_settle_8 ?_
  refine lv_iconst (v := 3) hx hb dX4_settle_9 (by decide) ?_
  refine lv_iand hx hb dX4_settle_10 ?_
  refine lv_istore (lv' := [(4, .int ((x >>> (7 &&& 31)) &&& 3)), (3, .int (x &&& 127)), (0, .ref (adr 30)), (1, .int x), (2, .int k)]) hx hb dX4_settle_11 hl (by decide) rfl (fun ls hl => ?_)
  refine lv_iload_n hx hb dX4_settle_13 rfl (lv_at hl 3 rfl) ?_
  refine lv_bipush (v := 9) hx hb dX4_settle_14 (by decide) ?_
  refine lv_ishr hx hb dX4_settle_16 ?_
  refine lv_istore (lv' := [(5, .int (x >>> (9 &&& 31))), (4, .int ((x >>> (7 &&& 31)) &&& 3)), (3, .int (x &&& 127)), (0, .ref (adr 30)), (1, .int x), (2, .int k)]) hx hb dX4_settle_17 hl (by decide) rfl (fun ls hl => ?_)
  refine lv_iconst (v := (-1)) hx hb dX4_settle_19 (by decide) ?_
  refine lv_istore (lv' := [(6, .int (-1)), (5, .int (x >>> (9 &&& 31))), (4, .int ((x >>> (7 &&& 31)) &&& 3)), (3, .int (x &&& 127)), (0, .ref (adr 30)), (1, .int x), (2, .int k)]) hx hb dX4_settle_20 hl (by decide) rfl (fun ls hl => ?_)
  refine lv_iconst (v := 0) hx hb dX4_settle_22 (by decide) ?_
  refine lv_istore (lv' := [(7, .int 0), (6, .int (-1)), (5, .int (x >>> (9 &&& 31))), (4, .int ((x >>> (7 &&& 31)) &&& 3)), (3, .int (x &&& 127)), (0, .ref (adr 30)), (1, .int x), (2, .int k)]) hx hb dX4_settle_23 hl (by decide) rfl (fun ls hl => ?_)
  refine lv_iconst (v := 0) hx hb dX4_settle_25 (by decide) ?_
  refine lv_istore (lv' := [(8, .int 0), (7, .int 0), (6, .int (-1)), (5, .int (x >>> (9 &&& 31))), (4, .int ((x >>> (7 &&& 31)) &&& 3)), (3, .int (x &&& 127)), (0, .ref (adr 30)), (1, .int x), (2, .int k)]) hx hb dX4_settle_26 hl (by decide) rfl (fun ls hl => ?_)
  have L28 : ∀ (f : Nat) (i : Nat) (o : Option Nat), c_ct S - i < f → i ≤ c_ct S → fiB (qK S x k) i = o → ∀ ls : Array Slot, lv_has ls 9 [(8, .int (nI i)), (7, .int (nI (ctB (qF S x) i))), (6, .int (oI o)), (0, .ref (adr 30)), (1, .int x), (2, .int k), (3, .int (x &&& 127)), (4, .int (x >>> ((7 : Int32) &&& 31) &&& 3)), (5, .int (x >>> ((9 : Int32) &&& 31)))] → W p l e (headSpec (.code yX4_settle cX4_settle 9 (some .int) :: lw_G) ({ frames := 1, cells := 0, slots := 0, locals := 24 } : Room)).room s m [.ref (adr 30), .int x, .int k].toArray below meth c s.heap [] 0 0 (MQ below (wq D lo adr n (some (.int (if k_set S x k = 0 then r_set S x k else 0))) (fun E2 => RepM cA adr (if k_set S x k = 0 then s_set S x k else S) (nI (k_set S x k)) E2 ∧ ∀ j, j < 30 ∨ 45 ≤ j → E2 j = E j)) [.ref (adr 30), .int x, .int k].toArray s 0 0 (fun q => lo ≤ q)) (F0 m 28 ls []) := by
    intro f
    induction f with
    | zero => intro i o h0; exact absurd h0 (by omega)
    | succ f ih28 =>
      intro i o hf hi hq ls hl
      refine lv_iload hx hb dX4_settle_28 (lv_at hl 0 rfl) ?_
      refine lv_aload_n hx hb dX4_settle_30 rfl (lv_at hl 3 rfl) ?_
      refine va_get (D := D) (ci := 4) (v := .int (nI (c_ct S))) (C := RX4) (T := TX4) (N := 16) hx hb hG inG_X4 hown hK hP 30 (wl_at (by omega) hM0) rfl 5 (by decide) (hG _ g_498) (fun _ h9 => h9) rfl dX4_settle_31 ?_
      refine lv_icmp_ge (tgt := 96) hx hb dX4_settle_34 (by decide) (fun c34 => ?_) (fun c34 => ?_)
      · have n34 : (c_ct S) ≤ i := (nI_leI (a := (c_ct S)) (b := i) (by omega) (by omega)).mp c34
        have hi9 : i = c_ct S := by omega
        rw [hi9] at hq
        rcases o with _ | z
        · have hz0 : True := trivial
          refine lv_aload_n hx hb dX4_settle_96 rfl (lv_at hl 3 rfl) ?_
          refine lv_iload hx hb dX4_settle_97 (lv_at hl 2 rfl) ?_
          refine lv_if_ge (tgt := 106) hx hb dX4_settle_99 (by decide) (fun c99 => absurd c99 (by decide)) (fun c99 => ?_)
          refine lv_iconst (v := 1) hx hb dX4_settle_102 (by decide) ?_
          refine lv_goto (tgt := 107) hx hb dX4_settle_103 (by decide) ?_
          refine lv_iconst (v := 0) hx hb dX4_settle_107 (by decide) ?_
          refine lv_iconst (v := 0) hx hb dX4_settle_108 (by decide) ?_
          refine lv_iconst (v := 0) hx hb dX4_settle_109 (by decide) ?_
          refine wn_wV (rest := []) hx hb hml hown hG hN hP hS (cX4_throwing_w hAd hn hV hR true false false false) (cwV 4 hG (gV g_557 g_559 gp_X4_throwing g_5 g_560) rfl rfl rfl (by decide +kernel) ⟨Nat.le_of_ble_eq_true rfl, Nat.le_of_ble_eq_true rfl⟩) (by omega) hM0 rfl rfl hl.1 rfl (Nat.le_of_ble_eq_true rfl) dX4_settle_110 ⟨Nat.le_of_ble_eq_true rfl, Nat.le_of_ble_eq_true rfl⟩ (fun F1 H locs hFF hP hS => ?_)
          obtain ⟨hR, fF⟩ := hFF
          have h45 : ∀ j, j < 30 ∨ 45 ≤ j → F1 j = E j := fun j hj => (fF j (by omega)).trans (h45 j hj)
          obtain ⟨hM0, hM1, hM2, hM3, hM4, hM5, hM6, hM7, hM8, hM9, hM10, hM11, hM12, hM13, hM14⟩ := id hR
          refine lv_if_eq (tgt := 118) hx hb dX4_settle_113 (by decide) (fun c113 => absurd c113 (by decide)) (fun c113 => ?_)
          refine lv_iconst (v := 0) hx hb dX4_settle_116 (by decide) ?_
          have hk : k_set S x k = 1 := by exact kset_1 hV hq
          exact W.iret (v := 0) hx hb hr (fun u9 ht _ => ⟨(by rw [hk]; rfl), F1, ⟨by rw [hk]; exact hR, h45⟩, by rw [ht]; exact hP, hS.F ht⟩) hS.2.2 dX4_settle_117
        · have hz := (kset_0 hV hq).2.2
          refine lv_aload_n hx hb dX4_settle_96 rfl (lv_at hl 3 rfl) ?_
          refine lv_iload hx hb dX4_settle_97 (lv_at hl 2 rfl) ?_
          refine lv_if_ge (tgt := 106) hx hb dX4_settle_99 (by decide) (fun c99 => ?_) (fun c99 => absurd (nI_pos' (by omega)) c99)
          refine lv_iconst (v := 0) hx hb dX4_settle_106 (by decide) ?_
          refine lv_iconst (v := 0) hx hb dX4_settle_107 (by decide) ?_
          refine lv_iconst (v := 0) hx hb dX4_settle_108 (by decide) ?_
          refine lv_iconst (v := 0) hx hb dX4_settle_109 (by decide) ?_
          refine wn_wV (rest := []) hx hb hml hown hG hN hP hS (cX4_throwing_w hAd hn hV hR false false false false) (cwV 4 hG (gV g_557 g_559 gp_X4_throwing g_5 g_560) rfl rfl rfl (by decide +kernel) ⟨Nat.le_of_ble_eq_true rfl, Nat.le_of_ble_eq_true rfl⟩) (by omega) hM0 rfl rfl hl.1 rfl (Nat.le_of_ble_eq_true rfl) dX4_settle_110 ⟨Nat.le_of_ble_eq_true rfl, Nat.le_of_ble_eq_true rfl⟩ (fun F2 H locs hFF hP hS => ?_)
          obtain ⟨hR, fF⟩ := hFF
          have h45 : ∀ j, j < 30 ∨ 45 ≤ j → F2 j = E j := fun j hj => (fF j (by omega)).trans (h45 j hj)
          obtain ⟨hM0, hM1, hM2, hM3, hM4, hM5, hM6, hM7, hM8, hM9, hM10, hM11, hM12, hM13, hM14⟩ := id hR
          have hR : RepM cA adr S 0 F2 := hR
          refine lv_if_eq (tgt := 118) hx hb dX4_settle_113 (by decide) (fun c113 => ?_) (fun c113 => absurd (by decide) c113)
          refine lv_iconst (v := 0) hx hb dX4_settle_118 (by decide) ?_
          refine lv_istore (lv' := [(8, .int 0), (7, .int (nI (ctB (qF S x) i))), (6, .int (nI z)), (0, .ref (adr 30)), (1, .int x), (2, .int k), (3, .int (x &&& 127)), (4, .int (x >>> ((7 : Int32) &&& 31) &&& 3)), (5, .int (x >>> ((9 : Int32) &&& 31)))]) hx hb dX4_settle_119 hl (by decide) rfl (fun ls hl => ?_)
          have L121 : ∀ (f : Nat) (i : Nat) (E1 : Nat → va_E) (H : Heap) (locs : List Loc), c_ct S - i < f → i ≤ c_ct S → RepM cA adr (w_sd S (fun j => if j < i ∧ c_rv S j z = true then false else c_sd S j)) 0 E1 → (∀ j, j < 30 ∨ 45 ≤ j → E1 j = E j) → va_P D kcl (wl adr n E1) H → va_S (fun q => lo ≤ q) s.heap H locs → ∀ ls : Array Slot, lv_has ls 9 [(8, .int (nI i)), (0, .ref (adr 30)), (6, .int (nI z))] → W p l e (headSpec (.code yX4_settle cX4_settle 9 (some .int) :: lw_G) ({ frames := 1, cells := 0, slots := 0, locals := 24 } : Room)).room s m [.ref (adr 30), .int x, .int k].toArray below meth c H locs 0 0 (MQ below (wq D lo adr n (some (.int (if k_set S x k = 0 then r_set S x k else 0))) (fun E2 => RepM cA adr (if k_set S x k = 0 then s_set S x k else S) (nI (k_set S x k)) E2 ∧ ∀ j, j < 30 ∨ 45 ≤ j → E2 j = E j)) [.ref (adr 30), .int x, .int k].toArray s 0 0 (fun q => lo ≤ q)) (F0 m 121 ls []) := by
            intro f
            induction f with
            | zero => intro i E1 H locs h0; exact absurd h0 (by omega)
            | succ f ih121 =>
              intro i E1 H locs hf hi hR h45 hP hS ls hl
              obtain ⟨hM0, hM1, hM2, hM3, hM4, hM5, hM6, hM7, hM8, hM9, hM10, hM11, hM12, hM13, hM14⟩ := id hR
              have ect : c_ct (w_sd S (fun j => if j < i ∧ c_rv S j z = true then false else c_sd S j)) = c_ct S := rfl
              refine lv_iload hx hb dX4_settle_121 (lv_at hl 0 rfl) ?_
              refine lv_aload_n hx hb dX4_settle_123 rfl (lv_at hl 1 rfl) ?_
              refine va_get (D := D) (ci := 4) (v := .int (nI (c_ct (w_sd S (fun j => if j < i ∧ c_rv S j z = true then false else c_sd S j))))) (C := RX4) (T := TX4) (N := 16) hx hb hG inG_X4 hown hK hP 30 (wl_at (by omega) hM0) rfl 5 (by decide) (hG _ g_498) (fun _ h9 => h9) rfl dX4_settle_124 ?_
              refine lv_icmp_ge (tgt := 155) hx hb dX4_settle_127 (by decide) (fun c127 => ?_) (fun c127 => ?_)
              · have n127 : (c_ct (w_sd S (fun j => if j < i ∧ c_rv S j z = true then false else c_sd S j))) ≤ i := (nI_leI (a := (c_ct (w_sd S (fun j => if j < i ∧ c_rv S j z = true then false else c_sd S j)))) (b := i) (by omega) (by omega)).mp c127
                have hi9 : i = c_ct S := by omega
                rw [hi9] at hR
                obtain ⟨hM0, hM1, hM2, hM3, hM4, hM5, hM6, hM7, hM8, hM9, hM10, hM11, hM12, hM13, hM14⟩ := id hR
                refine lv_aload_n hx hb dX4_settle_155 rfl (lv_at hl 1 rfl) ?_
                refine va_get (D := D) (ci := 4) (v := .ref (adr 41)) (C := RX4) (T := TX4) (N := 16) hx hb hG inG_X4 hown hK hP 30 (wl_at (by omega) hM0) rfl 12 (by decide) (hG _ g_505) (fun _ h9 => h9) rfl dX4_settle_156 ?_
                refine lv_iload hx hb dX4_settle_159 (lv_at hl 2 rfl) ?_
                refine lv_iconst (v := 1) hx hb dX4_settle_161 (by decide) ?_
                refine wn_zast (b := true) (j := z) hx hb hK hAd hP hS (by omega) hM11 (by omega) (by decide) dX4_settle_162 (fun H locs hP hS => ?_)
                have hP := hP
                rw [show upd (fun j => bI (c_sd (w_sd S (fun j => if j < c_ct S ∧ c_rv S j z = true then false else c_sd S j)) j)) z (bI true) = fun j => bI ((upZ (c_sd (w_sd S (fun j => if j < c_ct S ∧ c_rv S j z = true then false else c_sd S j))) z true) j) from upd_bI (c_sd (w_sd S (fun j => if j < c_ct S ∧ c_rv S j z = true then false else c_sd S j))) z true] at hP
                obtain ⟨E3x, hE3x⟩ : ∃ z9, z9 = va_up E1 41 (.inl (cA 1, 120, .inl (fun j => bI ((upZ (c_sd (w_sd S (fun j => if j < c_ct S ∧ c_rv S j z = true then false else c_sd S j))) z true) j)))) := ⟨_, rfl⟩
                have hP : va_P D kcl (wl adr n E3x) H := by rw [hE3x]; exact hP
                have hF9 : ∀ j, j ≠ 41 → E3x j = E1 j := fun j z9 => by rw [hE3x, va_up_ne _ _ z9]
                have h45 : ∀ j, j < 30 ∨ 45 ≤ j → E3x j = E j := fun j hj => (hF9 j (by omega)).trans (h45 j hj)
                have hR := repm_sd hR (E2 := E3x) (f := upZ (c_sd (w_sd S (fun j => if j < c_ct S ∧ c_rv S j z = true then false else c_sd S j))) z true) (by rw [hE3x, va_up_self]) hF9
                obtain ⟨S3, hS3⟩ : ∃ z9, z9 = w_sd (w_sd S (fun j => if j < c_ct S ∧ c_rv S j z = true then false else c_sd S j)) (upZ (c_sd (w_sd S (fun j => if j < c_ct S ∧ c_rv S j z = true then false else c_sd S j))) z true) := ⟨_, rfl⟩
                rw [← hS3] at hR
                have ectS3 : c_ct S3 = c_ct (w_sd S (fun j => if j < c_ct S ∧ c_rv S j z = true then false else c_sd S j)) := by rw [hS3]; rfl
                obtain ⟨hM0, hM1, hM2, hM3, hM4, hM5, hM6, hM7, hM8, hM9, hM10, hM11, hM12, hM13, hM14⟩ := id hR
                refine lv_aload_n hx hb dX4_settle_163 rfl (lv_at hl 1 rfl) ?_
                refine va_get (D := D) (ci := 4) (v := .ref (adr 39)) (C := RX4) (T := TX4) (N := 16) hx hb hG inG_X4 hown hK hP 30 (wl_at (by omega) hM0) rfl 10 (by decide) (hG _ g_503) (fun _ h9 => h9) rfl dX4_settle_164 ?_
                refine lv_iload hx hb dX4_settle_167 (lv_at hl 2 rfl) ?_
                refine wn_iald (j := z) hx hb hK hP (by omega) hM9 (by omega) (by decide) dX4_settle_169 ?_
                have hk : k_set S x k = 0 := by exact (kset_0 hV hq).1
                exact W.iret (v := (c_vl S3) z) hx hb hr (fun u9 ht _ => ⟨(by rw [hk, if_pos rfl]; exact congrArg (fun z => Outcome.returned (some (Value.int z))) (by unfold r_set; rw [(kset_0 hV hq).2.1, hS3]; rfl)), E3x, ⟨by rw [hk]; exact (by unfold s_set; rw [(kset_0 hV hq).2.1]; rw [hS3] at hR; exact (show (w_sd S (upZ (fun j => if j < c_ct S ∧ c_rv S j z = true then false else c_sd S j) z true)) = uK S (c_ct S) (c_nm S) (c_td S) (c_vl S) (fun j => if j < c_ct S ∧ c_nm S j = c_nm S ((some z).getD 0) then decide (j = (some z).getD 0) else c_sd S j) from congrArg (w_sd S) (set_fin hz)) ▸ hR), h45⟩, by rw [ht]; exact hP, hS.F ht⟩) hS.2.2 dX4_settle_170
              · have n127 : ¬ (c_ct (w_sd S (fun j => if j < i ∧ c_rv S j z = true then false else c_sd S j))) ≤ i := fun h7 => c127 ((nI_leI (a := (c_ct (w_sd S (fun j => if j < i ∧ c_rv S j z = true then false else c_sd S j)))) (b := i) (by omega) (by omega)).mpr h7)
                refine lv_aload_n hx hb dX4_settle_130 rfl (lv_at hl 1 rfl) ?_
                refine lv_iload hx hb dX4_settle_131 (lv_at hl 0 rfl) ?_
                refine lv_iload hx hb dX4_settle_133 (lv_at hl 2 rfl) ?_
                refine wn_rV (rest := []) hx hb hml hown hG hN hP (cX4_areRivals_r hn (S := w_sd S (fun j => if j < i ∧ c_rv S j z = true then false else c_sd S j)) hV hR (i := i) (j := z) (by omega) (by omega)) (cwV 2 hG (gV g_587 g_589 gp_X4_areRivals g_5 g_590) rfl rfl rfl (by decide +kernel) ⟨Nat.le_of_ble_eq_true rfl, Nat.le_of_ble_eq_true rfl⟩) (by omega) hM0 rfl rfl hl.1 rfl (Nat.le_of_ble_eq_true rfl) dX4_settle_135 ⟨Nat.le_of_ble_eq_true rfl, Nat.le_of_ble_eq_true rfl⟩ ?_
                refine lv_if_eq (tgt := 149) hx hb dX4_settle_138 (by decide) (fun c138 => ?_) (fun c138 => ?_)
                · have n138 : (c_rv S i z) = false := bI_0.mp c138
                  refine lv_iinc (v := nI (i + 1)) (lv' := [(8, .int (nI (i + 1))), (0, .ref (adr 30)), (6, .int (nI z))]) hx hb dX4_settle_149 hl (k := 0) rfl (nI_1 _) (by decide) rfl (fun ls hl => ?_)
                  refine lv_goto (tgt := 121) hx hb dX4_settle_152 (by decide) ?_
                  exact ih121 (i + 1) E1 _ _ (by omega) (by omega) (by rw [set_st (by omega), if_neg (by rw [n138]; exact Bool.false_ne_true)]; exact hR) h45 hP hS ls (lv_sub hl [0, 1, 2] rfl)
                · have n138 : (c_rv S i z) = true := bI_1.mp c138
                  refine lv_aload_n hx hb dX4_settle_141 rfl (lv_at hl 1 rfl) ?_
                  refine va_get (D := D) (ci := 4) (v := .ref (adr 41)) (C := RX4) (T := TX4) (N := 16) hx hb hG inG_X4 hown hK hP 30 (wl_at (by omega) hM0) rfl 12 (by decide) (hG _ g_505) (fun _ h9 => h9) rfl dX4_settle_142 ?_
                  refine lv_iload hx hb dX4_settle_145 (lv_at hl 0 rfl) ?_
                  refine lv_iconst (v := 0) hx hb dX4_settle_147 (by decide) ?_
                  refine wn_zast (b := false) (j := i) hx hb hK hAd hP hS (by omega) hM11 (by omega) (by decide) dX4_settle_148 (fun H locs hP hS => ?_)
                  have hP := hP
                  rw [show upd (fun j => bI (c_sd (w_sd S (fun j => if j < i ∧ c_rv S j z = true then false else c_sd S j)) j)) i (bI false) = fun j => bI ((upZ (c_sd (w_sd S (fun j => if j < i ∧ c_rv S j z = true then false else c_sd S j))) i false) j) from upd_bI (c_sd (w_sd S (fun j => if j < i ∧ c_rv S j z = true then false else c_sd S j))) i false] at hP
                  obtain ⟨E4x, hE4x⟩ : ∃ z9, z9 = va_up E1 41 (.inl (cA 1, 120, .inl (fun j => bI ((upZ (c_sd (w_sd S (fun j => if j < i ∧ c_rv S j z = true then false else c_sd S j))) i false) j)))) := ⟨_, rfl⟩
                  have hP : va_P D kcl (wl adr n E4x) H := by rw [hE4x]; exact hP
                  have hF9 : ∀ j, j ≠ 41 → E4x j = E1 j := fun j z9 => by rw [hE4x, va_up_ne _ _ z9]
                  have h45 : ∀ j, j < 30 ∨ 45 ≤ j → E4x j = E j := fun j hj => (hF9 j (by omega)).trans (h45 j hj)
                  have hR := repm_sd hR (E2 := E4x) (f := upZ (c_sd (w_sd S (fun j => if j < i ∧ c_rv S j z = true then false else c_sd S j))) i false) (by rw [hE4x, va_up_self]) hF9
                  obtain ⟨S4, hS4⟩ : ∃ z9, z9 = w_sd (w_sd S (fun j => if j < i ∧ c_rv S j z = true then false else c_sd S j)) (upZ (c_sd (w_sd S (fun j => if j < i ∧ c_rv S j z = true then false else c_sd S j))) i false) := ⟨_, rfl⟩
                  rw [← hS4] at hR
                  have ectS4 : c_ct S4 = c_ct (w_sd S (fun j => if j < i ∧ c_rv S j z = true then false else c_sd S j)) := by rw [hS4]; rfl
                  obtain ⟨hM0, hM1, hM2, hM3, hM4, hM5, hM6, hM7, hM8, hM9, hM10, hM11, hM12, hM13, hM14⟩ := id hR
                  refine lv_iinc (v := nI (i + 1)) (lv' := [(8, .int (nI (i + 1))), (0, .ref (adr 30)), (6, .int (nI z))]) hx hb dX4_settle_149 hl (k := 0) rfl (nI_1 _) (by decide) rfl (fun ls hl => ?_)
                  refine lv_goto (tgt := 121) hx hb dX4_settle_152 (by decide) ?_
                  exact ih121 (i + 1) E4x _ _ (by omega) (by omega) (by rw [set_st (by omega), if_pos n138]; rw [hS4] at hR; exact hR) h45 hP hS ls (lv_sub hl [0, 1, 2] rfl)
          exact L121 (c_ct S + 1) 0 F2 _ _ (by omega) (by omega) (by rw [show (fun j => if j < 0 ∧ c_rv S j z = true then false else c_sd S j) = c_sd S from funext fun j => if_neg (fun q => absurd q.1 (Nat.not_lt_zero j))]; exact hR) h45 hP hS ls (lv_sub hl [0, 3, 2] rfl)
      · have n34 : ¬ (c_ct S) ≤ i := fun h7 => c34 ((nI_leI (a := (c_ct S)) (b := i) (by omega) (by omega)).mpr h7)
        refine lv_aload_n hx hb dX4_settle_37 rfl (lv_at hl 3 rfl) ?_
        refine va_get (D := D) (ci := 4) (v := .ref (adr 35)) (C := RX4) (T := TX4) (N := 16) hx hb hG inG_X4 hown hK hP 30 (wl_at (by omega) hM0) rfl 6 (by decide) (hG _ g_499) (fun _ h9 => h9) rfl dX4_settle_38 ?_
        refine lv_iload hx hb dX4_settle_41 (lv_at hl 0 rfl) ?_
        refine wn_iald (j := i) hx hb hK hP (by omega) hM5 (by omega) (by decide) dX4_settle_43 ?_
        refine lv_iload hx hb dX4_settle_44 (lv_at hl 8 rfl) ?_
        refine lv_icmp_ne (tgt := 90) hx hb dX4_settle_46 (by decide) (fun c46 => ?_) (fun c46 => ?_)
        · have hqf : qF S x i = false := decide_eq_false (fun h9 => c46 ((nm_bits (hnm i)).mpr h9).1)
          have hcs : ctB (qF S x) (i + 1) = ctB (qF S x) i := ctB_f hqf
          rw [← hcs] at hl
          refine lv_iinc (v := nI (i + 1)) (lv' := [(8, .int (nI (i + 1))), (7, .int (nI (ctB (qF S x) (i + 1)))), (6, .int (oI o)), (0, .ref (adr 30)), (1, .int x), (2, .int k), (3, .int (x &&& 127)), (4, .int (x >>> ((7 : Int32) &&& 31) &&& 3)), (5, .int (x >>> ((9 : Int32) &&& 31)))]) hx hb dX4_settle_90 hl (k := 0) rfl (nI_1 _) (by decide) rfl (fun ls hl => ?_)
          refine lv_goto (tgt := 28) hx hb dX4_settle_93 (by decide) ?_
          exact ih28 (i + 1) o (by omega) (by omega) (by rw [fiB_f (by unfold qK; rw [hqf]; rfl)]; exact hq) ls (lv_sub hl [0, 1, 2, 3, 4, 5, 6, 7, 8] rfl)
        · refine lv_aload_n hx hb dX4_settle_49 rfl (lv_at hl 3 rfl) ?_
          refine va_get (D := D) (ci := 4) (v := .ref (adr 36)) (C := RX4) (T := TX4) (N := 16) hx hb hG inG_X4 hown hK hP 30 (wl_at (by omega) hM0) rfl 7 (by decide) (hG _ g_500) (fun _ h9 => h9) rfl dX4_settle_50 ?_
          refine lv_iload hx hb dX4_settle_53 (lv_at hl 0 rfl) ?_
          refine wn_iald (j := i) hx hb hK hP (by omega) hM6 (by omega) (by decide) dX4_settle_55 ?_
          refine lv_iload hx hb dX4_settle_56 (lv_at hl 7 rfl) ?_
          refine lv_icmp_ne (tgt := 90) hx hb dX4_settle_58 (by decide) (fun c58 => ?_) (fun c58 => ?_)
          · have hqf : qF S x i = false := decide_eq_false (fun h9 => c58 ((nm_bits (hnm i)).mpr h9).2.1)
            have hcs : ctB (qF S x) (i + 1) = ctB (qF S x) i := ctB_f hqf
            rw [← hcs] at hl
            refine lv_iinc (v := nI (i + 1)) (lv' := [(8, .int (nI (i + 1))), (7, .int (nI (ctB (qF S x) (i + 1)))), (6, .int (oI o)), (0, .ref (adr 30)), (1, .int x), (2, .int k), (3, .int (x &&& 127)), (4, .int (x >>> ((7 : Int32) &&& 31) &&& 3)), (5, .int (x >>> ((9 : Int32) &&& 31)))]) hx hb dX4_settle_90 hl (k := 0) rfl (nI_1 _) (by decide) rfl (fun ls hl => ?_)
            refine lv_goto (tgt := 28) hx hb dX4_settle_93 (by decide) ?_
            exact ih28 (i + 1) o (by omega) (by omega) (by rw [fiB_f (by unfold qK; rw [hqf]; rfl)]; exact hq) ls (lv_sub hl [0, 1, 2, 3, 4, 5, 6, 7, 8] rfl)
          · refine lv_aload_n hx hb dX4_settle_61 rfl (lv_at hl 3 rfl) ?_
            refine va_get (D := D) (ci := 4) (v := .ref (adr 37)) (C := RX4) (T := TX4) (N := 16) hx hb hG inG_X4 hown hK hP 30 (wl_at (by omega) hM0) rfl 8 (by decide) (hG _ g_501) (fun _ h9 => h9) rfl dX4_settle_62 ?_
            refine lv_iload hx hb dX4_settle_65 (lv_at hl 0 rfl) ?_
            refine wn_iald (j := i) hx hb hK hP (by omega) hM7 (by omega) (by decide) dX4_settle_67 ?_
            refine lv_iload_n hx hb dX4_settle_68 rfl (lv_at hl 6 rfl) ?_
            refine lv_icmp_ne (tgt := 90) hx hb dX4_settle_69 (by decide) (fun c69 => ?_) (fun c69 => ?_)
            · have hqf : qF S x i = false := decide_eq_false (fun h9 => c69 ((nm_bits (hnm i)).mpr h9).2.2)
              have hcs : ctB (qF S x) (i + 1) = ctB (qF S x) i := ctB_f hqf
              rw [← hcs] at hl
              refine lv_iinc (v := nI (i + 1)) (lv' := [(8, .int (nI (i + 1))), (7, .int (nI (ctB (qF S x) (i + 1)))), (6, .int (oI o)), (0, .ref (adr 30)), (1, .int x), (2, .int k), (3, .int (x &&& 127)), (4, .int (x >>> ((7 : Int32) &&& 31) &&& 3)), (5, .int (x >>> ((9 : Int32) &&& 31)))]) hx hb dX4_settle_90 hl (k := 0) rfl (nI_1 _) (by decide) rfl (fun ls hl => ?_)
              refine lv_goto (tgt := 28) hx hb dX4_settle_93 (by decide) ?_
              exact ih28 (i + 1) o (by omega) (by omega) (by rw [fiB_f (by unfold qK; rw [hqf]; rfl)]; exact hq) ls (lv_sub hl [0, 1, 2, 3, 4, 5, 6, 7, 8] rfl)
            · refine lv_iload hx hb dX4_settle_72 (lv_at hl 1 rfl) ?_
              refine lv_iload_n hx hb dX4_settle_74 rfl (lv_at hl 5 rfl) ?_
              refine lv_icmp_ne (tgt := 83) hx hb dX4_settle_75 (by decide) (fun c75 => ?_) (fun c75 => ?_)
              · refine lv_iload hx hb dX4_settle_83 (lv_at hl 2 rfl) ?_
                refine lv_istore (lv' := [(6, .int (oI o)), (8, .int (nI i)), (7, .int (nI (ctB (qF S x) i))), (0, .ref (adr 30)), (1, .int x), (2, .int k), (3, .int (x &&& 127)), (4, .int (x >>> ((7 : Int32) &&& 31) &&& 3)), (5, .int (x >>> ((9 : Int32) &&& 31)))]) hx hb dX4_settle_85 hl (by decide) rfl (fun ls hl => ?_)
                refine lv_iinc (v := nI (ctB (qF S x) (i + 1))) (lv' := [(7, .int (nI (ctB (qF S x) (i + 1)))), (6, .int (oI o)), (8, .int (nI i)), (0, .ref (adr 30)), (1, .int x), (2, .int k), (3, .int (x &&& 127)), (4, .int (x >>> ((7 : Int32) &&& 31) &&& 3)), (5, .int (x >>> ((9 : Int32) &&& 31)))]) hx hb dX4_settle_87 hl (k := 2) rfl (by rw [ctB_t (show qF S x i = true from decide_eq_true ((nm_bits (hnm i)).mp ⟨c46, c58, c69⟩))]; exact nI_1 _) (by decide) rfl (fun ls hl => ?_)
                refine lv_iinc (v := nI (i + 1)) (lv' := [(8, .int (nI (i + 1))), (7, .int (nI (ctB (qF S x) (i + 1)))), (6, .int (oI o)), (0, .ref (adr 30)), (1, .int x), (2, .int k), (3, .int (x &&& 127)), (4, .int (x >>> ((7 : Int32) &&& 31) &&& 3)), (5, .int (x >>> ((9 : Int32) &&& 31)))]) hx hb dX4_settle_90 hl (k := 2) rfl (nI_1 _) (by decide) rfl (fun ls hl => ?_)
                refine lv_goto (tgt := 28) hx hb dX4_settle_93 (by decide) ?_
                exact ih28 (i + 1) o (by omega) (by omega) (by rw [fiB_f (by unfold qK; rw [decide_eq_false c75, Bool.and_false])]; exact hq) ls (lv_sub hl [0, 1, 2, 3, 4, 5, 6, 7, 8] rfl)
              · refine lv_iload hx hb dX4_settle_78 (lv_at hl 0 rfl) ?_
                refine lv_goto (tgt := 85) hx hb dX4_settle_80 (by decide) ?_
                refine lv_istore (lv' := [(6, .int (nI i)), (8, .int (nI i)), (7, .int (nI (ctB (qF S x) i))), (0, .ref (adr 30)), (1, .int x), (2, .int k), (3, .int (x &&& 127)), (4, .int (x >>> ((7 : Int32) &&& 31) &&& 3)), (5, .int (x >>> ((9 : Int32) &&& 31)))]) hx hb dX4_settle_85 hl (by decide) rfl (fun ls hl => ?_)
                refine lv_iinc (v := nI (ctB (qF S x) (i + 1))) (lv' := [(7, .int (nI (ctB (qF S x) (i + 1)))), (6, .int (nI i)), (8, .int (nI i)), (0, .ref (adr 30)), (1, .int x), (2, .int k), (3, .int (x &&& 127)), (4, .int (x >>> ((7 : Int32) &&& 31) &&& 3)), (5, .int (x >>> ((9 : Int32) &&& 31)))]) hx hb dX4_settle_87 hl (k := 2) rfl (by rw [ctB_t (show qF S x i = true from decide_eq_true ((nm_bits (hnm i)).mp ⟨c46, c58, c69⟩))]; exact nI_1 _) (by decide) rfl (fun ls hl => ?_)
                refine lv_iinc (v := nI (i + 1)) (lv' := [(8, .int (nI (i + 1))), (7, .int (nI (ctB (qF S x) (i + 1)))), (6, .int (nI i)), (0, .ref (adr 30)), (1, .int x), (2, .int k), (3, .int (x &&& 127)), (4, .int (x >>> ((7 : Int32) &&& 31) &&& 3)), (5, .int (x >>> ((9 : Int32) &&& 31)))]) hx hb dX4_settle_90 hl (k := 2) rfl (nI_1 _) (by decide) rfl (fun ls hl => ?_)
                refine lv_goto (tgt := 28) hx hb dX4_settle_93 (by decide) ?_
                exact ih28 (i + 1) (some i) (by omega) (by omega) (fiB_hit (qK_none (by omega) (show qF S x i = true from decide_eq_true ((nm_bits (hnm i)).mp ⟨c46, c58, c69⟩)) c75) (by unfold qK; rw [(show qF S x i = true from decide_eq_true ((nm_bits (hnm i)).mp ⟨c46, c58, c69⟩)), decide_eq_true c75]; rfl) (by omega)) ls (lv_sub hl [0, 1, 2, 3, 4, 5, 6, 7, 8] rfl)
  exact L28 (c_ct S + 1) 0 none (by omega) (by omega) rfl ls (lv_sub hl [0, 1, 2, 6, 7, 8, 5, 4, 3] rfl)

set_option maxHeartbeats 4000000 in
set_option maxRecDepth 100000 in
theorem cX4_join_w {l : Launch} {D : va_G} {cA : Nat → ClassId} {adr : Nat → Nat} {n : Nat} {E : Nat → va_E} {lo : Nat} (hAd : wd_ad lo n adr) {S : CS} {th : Int32} (hn : 45 ≤ n) (hV : Inv S) (hR : RepM cA adr S th E) (dd oo : Int32) : Met l yX4_join (.code yX4_join cX4_join 5 (some .int) :: lw_G) ({ frames := 2, cells := 0, slots := 0, locals := 43 } : Room) (va_Pc [.ref (adr 30), .int dd, .int oo] (wdU D (kty cA) adr n E)) (wq D lo adr n (some (.int (if k_join S dd oo = 0 then r_join S dd oo else 0))) (fun E2 => RepM cA adr (if k_join S dd oo = 0 then s_join S dd oo else S) (nI (k_join S dd oo)) E2 ∧ ∀ j, j < 30 ∨ 45 ≤ j → E2 j = E j)) 0 0 (fun q => lo ≤ q) := by
  refine Met.ofW (cc := cX4_join) (maxL := 5) (ret := (some .int)) (by decide) rfl ?_
  intro p e s m args below meth c s₁ B hml hv
  obtain ⟨rfl, hP, hN⟩ := hv
  have hx := B.exec
  have hb := B.bytes
  have hr := B.returns
  have hG : ∀ w ∈ lw_G, w.before _ s = true := fun w h => atoms_spec (ws := _ :: lw_G) B.pre w (List.mem_cons_of_mem _ h)
  have hown : s.vm.findClass RX4 = some m.cls := findClass_of_methodNamed B.named
  have hlocks := B.notSynchronized
  have hK := hN.1
  have hS : va_S (fun q => lo ≤ q) s.heap s.heap [] := va_S.rf
  have hF : ∀ j, j ≠ 30 → E j = E j := fun j _ => rfl
  have hl := lv_entry ([.ref (adr 30), .int dd, .int oo]) (n := 5) (Nat.le_of_ble_eq_true rfl)
  rw [lg_entry_eq]
  generalize (lg_sl ([.ref (adr 30), .int dd, .int oo]) ++ List.replicate (5 - (lg_sl ([.ref (adr 30), .int dd, .int oo])).length) Slot.unset).toArray = ls at hl ⊢
  have hl : lv_has ls 5 [(0, .ref (adr 30)), (1, .int dd), (2, .int oo)] := hl
  obtain ⟨hM0, hM1, hM2, hM3, hM4, hM5, hM6, hM7, hM8, hM9, hM10, hM11, hM12, hM13, hM14⟩ := id hR
  obtain ⟨hct, hnm, htd, hmk, hlf, hnt, hnu, hcn, hmz, hmm, hib, hmr, hrise⟩ := id hV
  have h45 : ∀ j, j < 30 ∨ 45 ≤ j → E j = E j := fun _ _ => rfl
  refine lv_aload_n hx hb dX4_join_0 rfl (lv_at hl 0 rfl) ?_
  refine lv_iload_n hx hb dX4_join_1 rfl (lv_at hl 1 rfl) ?_
  refine wn_rS (rest := [.ref (adr 30)]) hx hb hml hown hG (cX4_isDesk_r _) (cwS 1 hG (gS g_573 g_574 g_5 g_575) rfl rfl rfl (by decide +kernel) ⟨Nat.le_of_ble_eq_true rfl, Nat.le_of_ble_eq_true rfl⟩) rfl hl.1 rfl (Nat.le_of_ble_eq_true rfl) dX4_join_2 ⟨Nat.le_of_ble_eq_true rfl, Nat.le_of_ble_eq_true rfl⟩ ?_
  refine lv_if_eq (tgt := 20) hx hb dX4_join_5 (by decide) (fun c5 => ?_) (fun c5 => ?_)
  · have n5 : (inN dd 3) = false := bI_0.mp c5
    refine lv_iconst (v := 1) hx hb dX4_join_20 (by decide) ?_
    refine lv_goto (tgt := 25) hx hb dX4_join_21 (by decide) ?_
    refine lv_iconst (v := 0) hx hb dX4_join_25 (by decide) ?_
    refine lv_iconst (v := 0) hx hb dX4_join_26 (by decide) ?_
    refine lv_iconst (v := 0) hx hb dX4_join_27 (by decide) ?_
    refine wn_wV (rest := []) hx hb hml hown hG hN hP hS (cX4_throwing_w hAd hn hV hR true false false false) (cwV 4 hG (gV g_557 g_559 gp_X4_throwing g_5 g_560) rfl rfl rfl (by decide +kernel) ⟨Nat.le_of_ble_eq_true rfl, Nat.le_of_ble_eq_true rfl⟩) (by omega) hM0 rfl rfl hl.1 rfl (Nat.le_of_ble_eq_true rfl) dX4_join_28 ⟨Nat.le_of_ble_eq_true rfl, Nat.le_of_ble_eq_true rfl⟩ (fun F1 H locs hFF hP hS => ?_)
    obtain ⟨hR, fF⟩ := hFF
    have h45 : ∀ j, j < 30 ∨ 45 ≤ j → F1 j = E j := fun j hj => (fF j (by omega)).trans (h45 j hj)
    obtain ⟨hM0, hM1, hM2, hM3, hM4, hM5, hM6, hM7, hM8, hM9, hM10, hM11, hM12, hM13, hM14⟩ := id hR
    refine lv_if_eq (tgt := 36) hx hb dX4_join_31 (by decide) (fun c31 => absurd c31 (by decide)) (fun c31 => ?_)
    refine lv_iconst (v := 0) hx hb dX4_join_34 (by decide) ?_
    have hk : k_join S dd oo = 1 := by unfold k_join; first | (rw [n5]; rfl) | (rw [n12, Bool.and_false]; rfl) | (rw [c17, decide_eq_true rfl, Bool.not_true, Bool.and_false]; rfl)
    exact W.iret (v := 0) hx hb hr (fun u9 ht _ => ⟨(by rw [hk]; rfl), F1, ⟨by rw [hk]; exact hR, h45⟩, by rw [ht]; exact hP, hS.F ht⟩) hS.2.2 dX4_join_35
  · have n5 : (inN dd 3) = true := bI_1.mp c5
    refine lv_iload_n hx hb dX4_join_8 rfl (lv_at hl 2 rfl) ?_
    refine wn_rS (rest := [.ref (adr 30)]) hx hb hml hown hG (cX4_isDesk_r _) (cwS 1 hG (gS g_573 g_574 g_5 g_575) rfl rfl rfl (by decide +kernel) ⟨Nat.le_of_ble_eq_true rfl, Nat.le_of_ble_eq_true rfl⟩) rfl hl.1 rfl (Nat.le_of_ble_eq_true rfl) dX4_join_9 ⟨Nat.le_of_ble_eq_true rfl, Nat.le_of_ble_eq_true rfl⟩ ?_
    refine lv_if_eq (tgt := 20) hx hb dX4_join_12 (by decide) (fun c12 => ?_) (fun c12 => ?_)
    · have n12 : (inN oo 3) = false := bI_0.mp c12
      refine lv_iconst (v := 1) hx hb dX4_join_20 (by decide) ?_
      refine lv_goto (tgt := 25) hx hb dX4_join_21 (by decide) ?_
      refine lv_iconst (v := 0) hx hb dX4_join_25 (by decide) ?_
      refine lv_iconst (v := 0) hx hb dX4_join_26 (by decide) ?_
      refine lv_iconst (v := 0) hx hb dX4_join_27 (by decide) ?_
      refine wn_wV (rest := []) hx hb hml hown hG hN hP hS (cX4_throwing_w hAd hn hV hR true false false false) (cwV 4 hG (gV g_557 g_559 gp_X4_throwing g_5 g_560) rfl rfl rfl (by decide +kernel) ⟨Nat.le_of_ble_eq_true rfl, Nat.le_of_ble_eq_true rfl⟩) (by omega) hM0 rfl rfl hl.1 rfl (Nat.le_of_ble_eq_true rfl) dX4_join_28 ⟨Nat.le_of_ble_eq_true rfl, Nat.le_of_ble_eq_true rfl⟩ (fun F2 H locs hFF hP hS => ?_)
      obtain ⟨hR, fF⟩ := hFF
      have h45 : ∀ j, j < 30 ∨ 45 ≤ j → F2 j = E j := fun j hj => (fF j (by omega)).trans (h45 j hj)
      obtain ⟨hM0, hM1, hM2, hM3, hM4, hM5, hM6, hM7, hM8, hM9, hM10, hM11, hM12, hM13, hM14⟩ := id hR
      refine lv_if_eq (tgt := 36) hx hb dX4_join_31 (by decide) (fun c31 => absurd c31 (by decide)) (fun c31 => ?_)
      refine lv_iconst (v := 0) hx hb dX4_join_34 (by decide) ?_
      have hk : k_join S dd oo = 1 := by unfold k_join; first | (rw [n5]; rfl) | (rw [n12, Bool.and_false]; rfl) | (rw [c17, decide_eq_true rfl, Bool.not_true, Bool.and_false]; rfl)
      exact W.iret (v := 0) hx hb hr (fun u9 ht _ => ⟨(by rw [hk]; rfl), F2, ⟨by rw [hk]; exact hR, h45⟩, by rw [ht]; exact hP, hS.F ht⟩) hS.2.2 dX4_join_35
    · have n12 : (inN oo 3) = true := bI_1.mp c12
      refine lv_iload_n hx hb dX4_join_15 rfl (lv_at hl 1 rfl) ?_
      refine lv_iload_n hx hb dX4_join_16 rfl (lv_at hl 2 rfl) ?_
      refine lv_icmp_ne (tgt := 24) hx hb dX4_join_17 (by decide) (fun c17 => ?_) (fun c17 => ?_)
      · refine lv_iconst (v := 0) hx hb dX4_join_24 (by decide) ?_
        refine lv_iconst (v := 0) hx hb dX4_join_25 (by decide) ?_
        refine lv_iconst (v := 0) hx hb dX4_join_26 (by decide) ?_
        refine lv_iconst (v := 0) hx hb dX4_join_27 (by decide) ?_
        refine wn_wV (rest := []) hx hb hml hown hG hN hP hS (cX4_throwing_w hAd hn hV hR false false false false) (cwV 4 hG (gV g_557 g_559 gp_X4_throwing g_5 g_560) rfl rfl rfl (by decide +kernel) ⟨Nat.le_of_ble_eq_true rfl, Nat.le_of_ble_eq_true rfl⟩) (by omega) hM0 rfl rfl hl.1 rfl (Nat.le_of_ble_eq_true rfl) dX4_join_28 ⟨Nat.le_of_ble_eq_true rfl, Nat.le_of_ble_eq_true rfl⟩ (fun F3 H locs hFF hP hS => ?_)
        obtain ⟨hR, fF⟩ := hFF
        have h45 : ∀ j, j < 30 ∨ 45 ≤ j → F3 j = E j := fun j hj => (fF j (by omega)).trans (h45 j hj)
        obtain ⟨hM0, hM1, hM2, hM3, hM4, hM5, hM6, hM7, hM8, hM9, hM10, hM11, hM12, hM13, hM14⟩ := id hR
        have hR : RepM cA adr S 0 F3 := hR
        refine lv_if_eq (tgt := 36) hx hb dX4_join_31 (by decide) (fun c31 => ?_) (fun c31 => absurd (by decide) c31)
        obtain ⟨d, hd, rfl⟩ := inN_of n5 (by decide)
        obtain ⟨o, ho, rfl⟩ := inN_of n12 (by decide)
        refine lv_iconst (v := 0) hx hb dX4_join_36 (by decide) ?_
        refine lv_istore_n (lv' := [(3, .int 0), (0, .ref (adr 30)), (1, .int (nI d)), (2, .int (nI o))]) hx hb dX4_join_37 rfl hl (by decide) rfl (fun ls hl => ?_)
        refine lv_iconst (v := 0) hx hb dX4_join_38 (by decide) ?_
        refine lv_istore (lv' := [(4, .int 0), (3, .int 0), (0, .ref (adr 30)), (1, .int (nI d)), (2, .int (nI o))]) hx hb dX4_join_39 hl (by decide) rfl (fun ls hl => ?_)
        have L41 : ∀ (f : Nat) (i : Nat) (E1 : Nat → va_E) (H : Heap) (locs : List Loc), c_ct S - i < f → i ≤ c_ct S → RepM cA adr ((jn S d o i).1) 0 E1 → (∀ j, j < 30 ∨ 45 ≤ j → E1 j = E j) → va_P D kcl (wl adr n E1) H → va_S (fun q => lo ≤ q) s.heap H locs → ∀ ls : Array Slot, lv_has ls 5 [(4, .int (nI i)), (3, .int (nI (jn S d o i).2)), (0, .ref (adr 30)), (1, .int (nI d)), (2, .int (nI o))] → W p l e (headSpec (.code yX4_join cX4_join 5 (some .int) :: lw_G) ({ frames := 2, cells := 0, slots := 0, locals := 43 } : Room)).room s m [.ref (adr 30), .int (nI d), .int (nI o)].toArray below meth c H locs 0 0 (MQ below (wq D lo adr n (some (.int (if k_join S (nI d) (nI o) = 0 then r_join S (nI d) (nI o) else 0))) (fun E2 => RepM cA adr (if k_join S (nI d) (nI o) = 0 then s_join S (nI d) (nI o) else S) (nI (k_join S (nI d) (nI o))) E2 ∧ ∀ j, j < 30 ∨ 45 ≤ j → E2 j = E j)) [.ref (adr 30), .int (nI d), .int (nI o)].toArray s 0 0 (fun q => lo ≤ q)) (F0 m 41 ls []) := by
          intro f
          induction f with
          | zero => intro i E1 H locs h0; exact absurd h0 (by omega)
          | succ f ih41 =>
            intro i E1 H locs hf hi hR h45 hP hS ls hl
            obtain ⟨hM0, hM1, hM2, hM3, hM4, hM5, hM6, hM7, hM8, hM9, hM10, hM11, hM12, hM13, hM14⟩ := id hR
            have ect := jn_ct (S := S) (d := d) (o := o) (i := i)
            refine lv_iload hx hb dX4_join_41 (lv_at hl 0 rfl) ?_
            refine lv_aload_n hx hb dX4_join_43 rfl (lv_at hl 2 rfl) ?_
            refine va_get (D := D) (ci := 4) (v := .int (nI (c_ct ((jn S d o i).1)))) (C := RX4) (T := TX4) (N := 16) hx hb hG inG_X4 hown hK hP 30 (wl_at (by omega) hM0) rfl 5 (by decide) (hG _ g_498) (fun _ h9 => h9) rfl dX4_join_44 ?_
            refine lv_icmp_ge (tgt := 91) hx hb dX4_join_47 (by decide) (fun c47 => ?_) (fun c47 => ?_)
            · have n47 : (c_ct ((jn S d o i).1)) ≤ i := (nI_leI (a := (c_ct ((jn S d o i).1))) (b := i) (by omega) (by omega)).mp c47
              refine lv_iload_n hx hb dX4_join_91 rfl (lv_at hl 1 rfl) ?_
              have hk : k_join S (nI d) (nI o) = 0 := by unfold k_join; rw [n5, n12, decide_eq_false c17]; rfl
              exact W.iret (v := nI (jn S d o i).2) hx hb hr (fun u9 ht _ => ⟨(by rw [hk, if_pos rfl]; exact congrArg (fun z => Outcome.returned (some (Value.int z))) (by unfold r_join; rw [nI_clamp (by omega), nI_clamp (by omega), show c_ct S = i from by omega])), E1, ⟨by rw [hk]; exact (by unfold s_join; rw [nI_clamp (by omega), nI_clamp (by omega), show c_ct S = i from by omega]; exact hR), h45⟩, by rw [ht]; exact hP, hS.F ht⟩) hS.2.2 dX4_join_92
            · have n47 : ¬ (c_ct ((jn S d o i).1)) ≤ i := fun h7 => c47 ((nI_leI (a := (c_ct ((jn S d o i).1))) (b := i) (by omega) (by omega)).mpr h7)
              refine lv_aload_n hx hb dX4_join_50 rfl (lv_at hl 2 rfl) ?_
              refine va_get (D := D) (ci := 4) (v := .ref (adr 42)) (C := RX4) (T := TX4) (N := 16) hx hb hG inG_X4 hown hK hP 30 (wl_at (by omega) hM0) rfl 13 (by decide) (hG _ g_506) (fun _ h9 => h9) rfl dX4_join_51 ?_
              refine lv_bipush (v := 120) hx hb dX4_join_54 (by decide) ?_
              refine lv_iload_n hx hb dX4_join_56 rfl (lv_at hl 4 rfl) ?_
              refine lv_imul hx hb dX4_join_57 ?_
              refine lv_topi (fun y9 e9 => ?_)
              have e9 : y9 = nI (120 * o) := e9.trans (pk_mul 120 o)
              subst e9
              refine lv_iload hx hb dX4_join_58 (lv_at hl 0 rfl) ?_
              refine lv_iadd hx hb dX4_join_60 ?_
              refine lv_topi (fun y9 e9 => ?_)
              have e9 : y9 = nI ((120 * o) + i) := e9.trans (nI_add (120 * o) i)
              subst e9
              refine wn_ialde (j := ((120 * o) + i)) (v := c_mo ((jn S d o i).1) o i) hx hb hK hP (by omega) hM12 (by omega) (by decide) (fl_at (c_mo ((jn S d o i).1)) (by omega)) dX4_join_61 ?_
              refine lv_if_le (tgt := 85) hx hb dX4_join_62 (by decide) (fun c62 => ?_) (fun c62 => ?_)
              · have ejm := jn_m1 (S := S) (d := d) (o := o) (i := i) (decide_eq_false (Int32.not_lt.mpr c62))
                rw [← ejm] at hl
                refine lv_iinc (v := nI (i + 1)) (lv' := [(4, .int (nI (i + 1))), (3, .int (nI (jn S d o (i + 1)).2)), (0, .ref (adr 30)), (1, .int (nI d)), (2, .int (nI o))]) hx hb dX4_join_85 hl (k := 0) rfl (nI_1 _) (by decide) rfl (fun ls hl => ?_)
                refine lv_goto (tgt := 41) hx hb dX4_join_88 (by decide) ?_
                exact ih41 (i + 1) E1 _ _ (by omega) (by omega) (by rw [ejm]; exact hR) h45 hP hS ls (lv_sub hl [0, 1, 2, 3, 4] rfl)
              · have h62 : c_see (jn S d o i).1 o i = true := decide_eq_true (Int32.not_le.mp c62)
                refine lv_aload_n hx hb dX4_join_65 rfl (lv_at hl 2 rfl) ?_
                refine lv_iload_n hx hb dX4_join_66 rfl (lv_at hl 3 rfl) ?_
                refine lv_iload hx hb dX4_join_67 (lv_at hl 0 rfl) ?_
                refine wn_rV (rest := []) hx hb hml hown hG hN hP (cX4_has_r hn (S := (jn S d o i).1) (inv_jn hV hd (by omega)) hR (d := d) (j := i) hd (by omega)) (cwV 2 hG (gV g_583 g_585 gp_X4_has g_5 g_586) rfl rfl rfl (by decide +kernel) ⟨Nat.le_of_ble_eq_true rfl, Nat.le_of_ble_eq_true rfl⟩) (by omega) hM0 rfl rfl hl.1 rfl (Nat.le_of_ble_eq_true rfl) dX4_join_69 ⟨Nat.le_of_ble_eq_true rfl, Nat.le_of_ble_eq_true rfl⟩ ?_
                refine lv_if_ne (tgt := 85) hx hb dX4_join_72 (by decide) (fun c72 => ?_) (fun c72 => ?_)
                · have n72 : (c_has (jn S d o i).1 d i) = true := bI_1.mp c72
                  have ejm := jn_m2 n72
                  rw [← ejm] at hl
                  refine lv_iinc (v := nI (i + 1)) (lv' := [(4, .int (nI (i + 1))), (3, .int (nI (jn S d o (i + 1)).2)), (0, .ref (adr 30)), (1, .int (nI d)), (2, .int (nI o))]) hx hb dX4_join_85 hl (k := 0) rfl (nI_1 _) (by decide) rfl (fun ls hl => ?_)
                  refine lv_goto (tgt := 41) hx hb dX4_join_88 (by decide) ?_
                  exact ih41 (i + 1) E1 _ _ (by omega) (by omega) (by rw [ejm]; exact hR) h45 hP hS ls (lv_sub hl [0, 1, 2, 3, 4] rfl)
                · have n72 : (c_has (jn S d o i).1 d i) = false := bI_0.mp c72
                  refine lv_aload_n hx hb dX4_join_75 rfl (lv_at hl 2 rfl) ?_
                  refine lv_iload_n hx hb dX4_join_76 rfl (lv_at hl 3 rfl) ?_
                  refine lv_iload hx hb dX4_join_77 (lv_at hl 0 rfl) ?_
                  refine wn_wV (rest := []) hx hb hml hown hG hN hP hS (cX4_comes_w hAd hn (S := (jn S d o i).1) (inv_jn hV hd (by omega)) hR (d := d) (j := i) hd (by omega)) (cwV 2 hG (gV g_591 g_593 gp_X4_comes g_5 g_594) rfl rfl rfl (by decide +kernel) ⟨Nat.le_of_ble_eq_true rfl, Nat.le_of_ble_eq_true rfl⟩) (by omega) hM0 rfl rfl hl.1 rfl (Nat.le_of_ble_eq_true rfl) dX4_join_79 ⟨Nat.le_of_ble_eq_true rfl, Nat.le_of_ble_eq_true rfl⟩ (fun F4 H locs hFF hP hS => ?_)
                  obtain ⟨hR, fF⟩ := hFF
                  have h45 : ∀ j, j < 30 ∨ 45 ≤ j → F4 j = E j := fun j hj => (fF j (by omega) (by omega)).trans (h45 j hj)
                  refine lv_iinc (v := nI (jn S d o (i + 1)).2) (lv' := [(3, .int (nI (jn S d o (i + 1)).2)), (4, .int (nI i)), (0, .ref (adr 30)), (1, .int (nI d)), (2, .int (nI o))]) hx hb dX4_join_82 hl (k := 1) rfl (by rw [jn_hit h62 n72]; exact nI_1 _) (by decide) rfl (fun ls hl => ?_)
                  refine lv_iinc (v := nI (i + 1)) (lv' := [(4, .int (nI (i + 1))), (3, .int (nI (jn S d o (i + 1)).2)), (0, .ref (adr 30)), (1, .int (nI d)), (2, .int (nI o))]) hx hb dX4_join_85 hl (k := 1) rfl (nI_1 _) (by decide) rfl (fun ls hl => ?_)
                  refine lv_goto (tgt := 41) hx hb dX4_join_88 (by decide) ?_
                  exact ih41 (i + 1) F4 _ _ (by omega) (by omega) (by rw [jn_hit h62 n72]; exact hR) h45 hP hS ls (lv_sub hl [0, 1, 2, 3, 4] rfl)
        exact L41 (c_ct S + 1) 0 F3 _ _ (by omega) (by omega) hR h45 hP hS ls (lv_sub hl [0, 1, 2, 3, 4] rfl)
      · refine lv_iconst (v := 1) hx hb dX4_join_20 (by decide) ?_
        refine lv_goto (tgt := 25) hx hb dX4_join_21 (by decide) ?_
        refine lv_iconst (v := 0) hx hb dX4_join_25 (by decide) ?_
        refine lv_iconst (v := 0) hx hb dX4_join_26 (by decide) ?_
        refine lv_iconst (v := 0) hx hb dX4_join_27 (by decide) ?_
        refine wn_wV (rest := []) hx hb hml hown hG hN hP hS (cX4_throwing_w hAd hn hV hR true false false false) (cwV 4 hG (gV g_557 g_559 gp_X4_throwing g_5 g_560) rfl rfl rfl (by decide +kernel) ⟨Nat.le_of_ble_eq_true rfl, Nat.le_of_ble_eq_true rfl⟩) (by omega) hM0 rfl rfl hl.1 rfl (Nat.le_of_ble_eq_true rfl) dX4_join_28 ⟨Nat.le_of_ble_eq_true rfl, Nat.le_of_ble_eq_true rfl⟩ (fun F5 H locs hFF hP hS => ?_)
        obtain ⟨hR, fF⟩ := hFF
        have h45 : ∀ j, j < 30 ∨ 45 ≤ j → F5 j = E j := fun j hj => (fF j (by omega)).trans (h45 j hj)
        obtain ⟨hM0, hM1, hM2, hM3, hM4, hM5, hM6, hM7, hM8, hM9, hM10, hM11, hM12, hM13, hM14⟩ := id hR
        refine lv_if_eq (tgt := 36) hx hb dX4_join_31 (by decide) (fun c31 => absurd c31 (by decide)) (fun c31 => ?_)
        refine lv_iconst (v := 0) hx hb dX4_join_34 (by decide) ?_
        have hk : k_join S dd oo = 1 := by unfold k_join; first | (rw [n5]; rfl) | (rw [n12, Bool.and_false]; rfl) | (rw [c17, decide_eq_true rfl, Bool.not_true, Bool.and_false]; rfl)
        exact W.iret (v := 0) hx hb hr (fun u9 ht _ => ⟨(by rw [hk]; rfl), F5, ⟨by rw [hk]; exact hR, h45⟩, by rw [ht]; exact hP, hS.F ht⟩) hS.2.2 dX4_join_35
