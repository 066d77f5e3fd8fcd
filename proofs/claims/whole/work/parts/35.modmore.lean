set_option maxHeartbeats 4000000 in
set_option maxRecDepth 100000 in
theorem cX4_comes_w {l : Launch} {D : va_G} {cA : Nat → ClassId} {adr : Nat → Nat} {n : Nat} {E : Nat → va_E} {lo : Nat} (hAd : wd_ad lo n adr) {S : CS} {th : Int32} (hn : 45 ≤ n) (hV : Inv S) (hR : RepM cA adr S th E) {d j : Nat} (hd : d < 3) (hj : j < 120) : Met l yX4_comes (.code yX4_comes cX4_comes 3 none :: lw_G) ({ frames := 0, cells := 0, slots := 0, locals := 0 } : Room) (va_Pc [.ref (adr 30), .int (nI d), .int (nI j)] (wdU D (kty cA) adr n E)) (wq D lo adr n (none) (fun E2 => RepM cA adr (tk S d j) th E2 ∧ ∀ j, j ≠ 42 → j ≠ 43 → E2 j = E j)) 0 0 (fun q => lo ≤ q) := by
  refine Met.ofW (cc := cX4_comes) (maxL := 3) (ret := none) (by decide) rfl ?_
  intro p e s m args below meth c s₁ B hml hv
  obtain ⟨rfl, hP, hN⟩ := hv
  have hx := B.exec
  have hb := B.bytes
  have hr := B.returns
  have hG : ∀ w ∈ lw_G, w.before _ s = true := fun w h => atoms_spec (ws := _ :: lw_G) B.pre w (List.mem_cons_of_mem _ h)
  have hown : s.vm.findClass RX4 = some m.cls := findClass_of_methodNamed B.named
  have hlocks := B.notSynchronized
  have hK := hN.1
  have hS : va_S (fun q => lo ≤ q) s.heap s.heap [] := va_S.rf
  have hF : ∀ j, j ≠ 42 → j ≠ 43 → E j = E j := fun j _ _ => rfl
  have hl := lv_entry ([.ref (adr 30), .int (nI d), .int (nI j)]) (n := 3) (Nat.le_of_ble_eq_true rfl)
  rw [lg_entry_eq]
  generalize (lg_sl ([.ref (adr 30), .int (nI d), .int (nI j)]) ++ List.replicate (3 - (lg_sl ([.ref (adr 30), .int (nI d), .int (nI j)])).length) Slot.unset).toArray = ls at hl ⊢
  have hl : lv_has ls 3 [(0, .ref (adr 30)), (1, .int (nI d)), (2, .int (nI j))] := hl
  obtain ⟨hM0, hM1, hM2, hM3, hM4, hM5, hM6, hM7, hM8, hM9, hM10, hM11, hM12, hM13, hM14⟩ := id hR
  refine lv_aload_n hx hb dX4_comes_0 rfl (lv_at hl 0 rfl) ?_
  refine va_get (D := D) (ci := 4) (v := .ref (adr 44)) (C := RX4) (T := TX4) (N := 16) hx hb hG inG_X4 hown hK hP 30 (wl_at (by omega) hM0) rfl 15 (by decide) (hG _ g_508) (fun _ h9 => h9) rfl dX4_comes_1 ?_
  refine lv_iload_n hx hb dX4_comes_4 rfl (lv_at hl 1 rfl) ?_
  refine wn_zald (j := d) hx hb hK hP (by omega) hM14 (by omega) (by decide) dX4_comes_5 ?_
  refine lv_if_eq (tgt := 22) hx hb dX4_comes_6 (by decide) (fun c6 => ?_) (fun c6 => ?_)
  · have n6 : (c_ib S d) = false := bI_0.mp c6
    refine lv_aload_n hx hb dX4_comes_22 rfl (lv_at hl 0 rfl) ?_
    refine va_get (D := D) (ci := 4) (v := .ref (adr 43)) (C := RX4) (T := TX4) (N := 16) hx hb hG inG_X4 hown hK hP 30 (wl_at (by omega) hM0) rfl 14 (by decide) (hG _ g_507) (fun _ h9 => h9) rfl dX4_comes_23 ?_
    refine lv_iload_n hx hb dX4_comes_26 rfl (lv_at hl 1 rfl) ?_
    refine lv_dup2_11 hx hb dX4_comes_27 rfl rfl ?_
    refine wn_iald (j := d) hx hb hK hP (by omega) hM13 (by omega) (by decide) dX4_comes_28 ?_
    refine lv_iconst (v := 1) hx hb dX4_comes_29 (by decide) ?_
    refine lv_iadd hx hb dX4_comes_30 ?_
    refine wn_iast (j := d) hx hb hK hAd hP hS (by omega) hM13 (by omega) (by decide) dX4_comes_31 (fun H locs hP hS => ?_)
    obtain ⟨E1x, hE1x⟩ : ∃ z, z = va_up E 43 (.inl (cA 0, 3, .inl (upd (c_mt S) d (((c_mt S) d) + 1)))) := ⟨_, rfl⟩
    have hP : va_P D kcl (wl adr n E1x) H := by rw [hE1x]; exact hP
    have hM0 := (show E1x 30 = E 30 from by rw [hE1x, va_up_ne _ _ (by omega)]).trans hM0
    have hM12 := (show E1x 42 = E 42 from by rw [hE1x, va_up_ne _ _ (by omega)]).trans hM12
    have hM13 : E1x 43 = .inl (cA 0, 3, .inl (upd (c_mt S) d (((c_mt S) d) + 1))) := by rw [hE1x, va_up_self]
    have hM14 := (show E1x 44 = E 44 from by rw [hE1x, va_up_ne _ _ (by omega)]).trans hM14
    have hF : ∀ j, j ≠ 42 → j ≠ 43 → E1x j = E j := fun j z0 z1 => (show E1x j = E j from by rw [hE1x, va_up_ne _ _ z1]).trans (hF j z0 z1)
    refine lv_aload_n hx hb dX4_comes_32 rfl (lv_at hl 0 rfl) ?_
    refine va_get (D := D) (ci := 4) (v := .ref (adr 42)) (C := RX4) (T := TX4) (N := 16) hx hb hG inG_X4 hown hK hP 30 (wl_at (by omega) hM0) rfl 13 (by decide) (hG _ g_506) (fun _ h9 => h9) rfl dX4_comes_33 ?_
    refine lv_bipush (v := 120) hx hb dX4_comes_36 (by decide) ?_
    refine lv_iload_n hx hb dX4_comes_38 rfl (lv_at hl 1 rfl) ?_
    refine lv_imul hx hb dX4_comes_39 ?_
    refine lv_topi (fun y9 e9 => ?_)
    have e9 : y9 = nI (120 * d) := e9.trans (pk_mul 120 d)
    subst e9
    refine lv_iload_n hx hb dX4_comes_40 rfl (lv_at hl 2 rfl) ?_
    refine lv_iadd hx hb dX4_comes_41 ?_
    refine lv_topi (fun y9 e9 => ?_)
    have e9 : y9 = nI ((120 * d) + j) := e9.trans (nI_add (120 * d) j)
    subst e9
    refine lv_aload_n hx hb dX4_comes_42 rfl (lv_at hl 0 rfl) ?_
    refine va_get (D := D) (ci := 4) (v := .ref (adr 43)) (C := RX4) (T := TX4) (N := 16) hx hb hG inG_X4 hown hK hP 30 (wl_at (by omega) hM0) rfl 14 (by decide) (hG _ g_507) (fun _ h9 => h9) rfl dX4_comes_43 ?_
    refine lv_iload_n hx hb dX4_comes_46 rfl (lv_at hl 1 rfl) ?_
    refine wn_iald (j := d) hx hb hK hP (by omega) hM13 (by omega) (by decide) dX4_comes_47 ?_
    refine wn_iast (j := ((120 * d) + j)) hx hb hK hAd hP hS (by omega) hM12 (by omega) (by decide) dX4_comes_48 (fun H locs hP hS => ?_)
    rw [fl_upd (c_mo S) _ (by omega)] at hP
    obtain ⟨E2x, hE2x⟩ : ∃ z, z = va_up E1x 42 (.inl (cA 0, 360, .inl (fun y => (va_up (c_mo S) d (upd ((c_mo S) d) j ((upd (c_mt S) d (((c_mt S) d) + 1)) d))) (y / 120) (y % 120)))) := ⟨_, rfl⟩
    have hP : va_P D kcl (wl adr n E2x) H := by rw [hE2x]; exact hP
    have hM0 := (show E2x 30 = E1x 30 from by rw [hE2x, va_up_ne _ _ (by omega)]).trans hM0
    have hM12 : E2x 42 = .inl (cA 0, 360, .inl (fun y => (va_up (c_mo S) d (upd ((c_mo S) d) j ((upd (c_mt S) d (((c_mt S) d) + 1)) d))) (y / 120) (y % 120))) := by rw [hE2x, va_up_self]
    have hM13 := (show E2x 43 = E1x 43 from by rw [hE2x, va_up_ne _ _ (by omega)]).trans hM13
    have hM14 := (show E2x 44 = E1x 44 from by rw [hE2x, va_up_ne _ _ (by omega)]).trans hM14
    have hF : ∀ j, j ≠ 42 → j ≠ 43 → E2x j = E j := fun j z0 z1 => (show E2x j = E1x j from by rw [hE2x, va_up_ne _ _ z0]).trans (hF j z0 z1)
    exact W.vret hx hb hr (fun t ht _ => ⟨rfl, E2x, ⟨repm_tk hR (hM12.trans (congrArg (fun z => Sum.inl (cA 0, 360, Sum.inl z)) (funext fun y => by show _ = va_up (c_mo S) d (upd (c_mo S d) j (if c_ib S d then -1 else c_mt S d + 1)) (y / 120) (y % 120); rw [n6, show upd (c_mt S) d (c_mt S d + 1) d = c_mt S d + 1 from pk_us]; rfl))) (hM13.trans (congrArg (fun z => Sum.inl (cA 0, 3, Sum.inl z)) (by show _ = va_up (c_mt S) d (if c_ib S d then c_mt S d else c_mt S d + 1); rw [n6]; rfl))) hM14 hF, hF⟩, by rw [ht]; exact hP, hS.F ht⟩) hS.2.2 dX4_comes_49
  · have n6 : (c_ib S d) = true := bI_1.mp c6
    refine lv_aload_n hx hb dX4_comes_9 rfl (lv_at hl 0 rfl) ?_
    refine va_get (D := D) (ci := 4) (v := .ref (adr 42)) (C := RX4) (T := TX4) (N := 16) hx hb hG inG_X4 hown hK hP 30 (wl_at (by omega) hM0) rfl 13 (by decide) (hG _ g_506) (fun _ h9 => h9) rfl dX4_comes_10 ?_
    refine lv_bipush (v := 120) hx hb dX4_comes_13 (by decide) ?_
    refine lv_iload_n hx hb dX4_comes_15 rfl (lv_at hl 1 rfl) ?_
    refine lv_imul hx hb dX4_comes_16 ?_
    refine lv_topi (fun y9 e9 => ?_)
    have e9 : y9 = nI (120 * d) := e9.trans (pk_mul 120 d)
    subst e9
    refine lv_iload_n hx hb dX4_comes_17 rfl (lv_at hl 2 rfl) ?_
    refine lv_iadd hx hb dX4_comes_18 ?_
    refine lv_topi (fun y9 e9 => ?_)
    have e9 : y9 = nI ((120 * d) + j) := e9.trans (nI_add (120 * d) j)
    subst e9
    refine lv_iconst (v := (-1)) hx hb dX4_comes_19 (by decide) ?_
    refine wn_iast (j := ((120 * d) + j)) hx hb hK hAd hP hS (by omega) hM12 (by omega) (by decide) dX4_comes_20 (fun H locs hP hS => ?_)
    rw [fl_upd (c_mo S) _ (by omega)] at hP
    obtain ⟨E3x, hE3x⟩ : ∃ z, z = va_up E 42 (.inl (cA 0, 360, .inl (fun y => (va_up (c_mo S) d (upd ((c_mo S) d) j (-1))) (y / 120) (y % 120)))) := ⟨_, rfl⟩
    have hP : va_P D kcl (wl adr n E3x) H := by rw [hE3x]; exact hP
    have hM0 := (show E3x 30 = E 30 from by rw [hE3x, va_up_ne _ _ (by omega)]).trans hM0
    have hM12 : E3x 42 = .inl (cA 0, 360, .inl (fun y => (va_up (c_mo S) d (upd ((c_mo S) d) j (-1))) (y / 120) (y % 120))) := by rw [hE3x, va_up_self]
    have hM13 := (show E3x 43 = E 43 from by rw [hE3x, va_up_ne _ _ (by omega)]).trans hM13
    have hM14 := (show E3x 44 = E 44 from by rw [hE3x, va_up_ne _ _ (by omega)]).trans hM14
    have hF : ∀ j, j ≠ 42 → j ≠ 43 → E3x j = E j := fun j z0 z1 => (show E3x j = E j from by rw [hE3x, va_up_ne _ _ z0]).trans (hF j z0 z1)
    exact W.vret hx hb hr (fun t ht _ => ⟨rfl, E3x, ⟨repm_tk hR (hM12.trans (congrArg (fun z => Sum.inl (cA 0, 360, Sum.inl z)) (funext fun y => by show _ = va_up (c_mo S) d (upd (c_mo S d) j (if c_ib S d then -1 else c_mt S d + 1)) (y / 120) (y % 120); rw [n6]; rfl))) (hM13.trans (congrArg (fun z => Sum.inl (cA 0, 3, Sum.inl z)) (by show c_mt S = va_up (c_mt S) d (if c_ib S d then c_mt S d else c_mt S d + 1); rw [n6]; exact (va_up_id _ _).symm))) hM14 hF, hF⟩, by rw [ht]; exact hP, hS.F ht⟩) hS.2.2 dX4_comes_21

set_option maxHeartbeats 4000000 in
set_option maxRecDepth 100000 in
theorem cX4_hasNumber_r {l : Launch} {D : va_G} {cA : Nat → ClassId} {adr : Nat → Nat} {n : Nat} {E : Nat → va_E} {S : CS} {th : Int32} (hn : 45 ≤ n) (hV : Inv S) (hR : RepM cA adr S th E) {d t u : Nat} (hd : d < 3) (ht : t < 5) (hu : u < 128) : Met l yX4_hasNumber (.code yX4_hasNumber cX4_hasNumber 6 (some .boolean) :: lw_G) ({ frames := 0, cells := 0, slots := 0, locals := 0 } : Room) (va_Pc [.ref (adr 30), .int (nI d), .int (nI t), .int (nI u)] (wdU D (kty cA) adr n E)) (QcRead (bI (c_hN S d t u))) 0 0 (fun _ => False) := by
  refine Met.ofW (cc := cX4_hasNumber) (maxL := 6) (ret := (some .boolean)) (by decide) rfl ?_
  intro p e s m args below meth c s₁ B hml hv
  obtain ⟨rfl, hP, hN⟩ := hv
  have hx := B.exec
  have hb := B.bytes
  have hr := B.returns
  have hG : ∀ w ∈ lw_G, w.before _ s = true := fun w h => atoms_spec (ws := _ :: lw_G) B.pre w (List.mem_cons_of_mem _ h)
  have hown : s.vm.findClass RX4 = some m.cls := findClass_of_methodNamed B.named
  have hlocks := B.notSynchronized
  have hK := hN.1
  have hl := lv_entry ([.ref (adr 30), .int (nI d), .int (nI t), .int (nI u)]) (n := 6) (Nat.le_of_ble_eq_true rfl)
  rw [lg_entry_eq]
  generalize (lg_sl ([.ref (adr 30), .int (nI d), .int (nI t), .int (nI u)]) ++ List.replicate (6 - (lg_sl ([.ref (adr 30), .int (nI d), .int (nI t), .int (nI u)])).length) Slot.unset).toArray = ls at hl ⊢
  have hl : lv_has ls 6 [(0, .ref (adr 30)), (1, .int (nI d)), (2, .int (nI t)), (3, .int (nI u))] := hl
  obtain ⟨hM0, hM1, hM2, hM3, hM4, hM5, hM6, hM7, hM8, hM9, hM10, hM11, hM12, hM13, hM14⟩ := id hR
  obtain ⟨hct, hnm, htd, hmk, hlf, hnt, hnu, hcn, hmz, hmm, hib, hmr, hrise⟩ := id hV
  have blf := hlf t ht
  refine lv_iconst (v := 0) hx hb dX4_hasNumber_0 (by decide) ?_
  refine lv_istore (lv' := [(4, .int 0), (0, .ref (adr 30)), (1, .int (nI d)), (2, .int (nI t)), (3, .int (nI u))]) hx hb dX4_hasNumber_1 hl (by decide) rfl (fun ls hl => ?_)
  refine lv_iconst (v := 0) hx hb dX4_hasNumber_3 (by decide) ?_
  refine lv_istore (lv' := [(5, .int 0), (4, .int 0), (0, .ref (adr 30)), (1, .int (nI d)), (2, .int (nI t)), (3, .int (nI u))]) hx hb dX4_hasNumber_4 hl (by decide) rfl (fun ls hl => ?_)
  have L6 : ∀ (f : Nat) (i : Nat) (q : Bool), c_ct S - i < f → i ≤ c_ct S → anB (fun i => c_see S d i && decide (c_nm S i = t * 512 + c_lf S t * 128 + u)) i = q → ∀ ls : Array Slot, lv_has ls 6 [(5, .int (nI i)), (4, .int (bI q)), (0, .ref (adr 30)), (1, .int (nI d)), (2, .int (nI t)), (3, .int (nI u))] → W p l e (headSpec (.code yX4_hasNumber cX4_hasNumber 6 (some .boolean) :: lw_G) ({ frames := 0, cells := 0, slots := 0, locals := 0 } : Room)).room s m [.ref (adr 30), .int (nI d), .int (nI t), .int (nI u)].toArray below meth c s.heap [] 0 0 (MQ below (QcRead (bI (c_hN S d t u))) [.ref (adr 30), .int (nI d), .int (nI t), .int (nI u)].toArray s 0 0 (fun _ => False)) (F0 m 6 ls []) := by
    intro f
    induction f with
    | zero => intro i q h0; exact absurd h0 (by omega)
    | succ f ih =>
      intro i q hf hi hq ls hl
      refine lv_iload hx hb dX4_hasNumber_6 (lv_at hl 0 rfl) ?_
      refine lv_aload_n hx hb dX4_hasNumber_8 rfl (lv_at hl 2 rfl) ?_
      refine va_get (D := D) (ci := 4) (v := .int (nI (c_ct S))) (C := RX4) (T := TX4) (N := 16) hx hb hG inG_X4 hown hK hP 30 (wl_at (by omega) hM0) rfl 5 (by decide) (hG _ g_498) (fun _ h9 => h9) rfl dX4_hasNumber_9 ?_
      refine lv_icmp_ge (tgt := 86) hx hb dX4_hasNumber_12 (by decide) (fun c12 => ?_) (fun c12 => ?_)
      · have n12 : (c_ct S) ≤ i := (nI_leI (a := (c_ct S)) (b := i) (by omega) (by omega)).mp c12
        refine lv_iload hx hb dX4_hasNumber_86 (lv_at hl 1 rfl) ?_
        have h9 : (bI q : Int32) = bI (c_hN S d t u) := by unfold c_hN; rw [show c_ct S = i from by omega, hq]
        exact W.zret (v := bI q) hx hb hr (by first | rfl | exact bI_nar _) (fun t ht _ => ⟨congrArg (fun z => Outcome.returned (some (Value.int z))) h9, ht⟩) (fun _ h => nomatch h) dX4_hasNumber_88
      · have n12 : ¬ (c_ct S) ≤ i := fun h7 => c12 ((nI_leI (a := (c_ct S)) (b := i) (by omega) (by omega)).mpr h7)
        have b1 := hnm i
        refine lv_iload hx hb dX4_hasNumber_15 (lv_at hl 1 rfl) ?_
        refine lv_if_ne (tgt := 73) hx hb dX4_hasNumber_17 (by decide) (fun c17 => ?_) (fun c17 => ?_)
        · have n17 : q = true := bI_1.mp c17
          refine lv_iconst (v := 1) hx hb dX4_hasNumber_73 (by decide) ?_
          refine lv_goto (tgt := 78) hx hb dX4_hasNumber_74 (by decide) ?_
          refine lv_istore (lv' := [(4, .int 1), (5, .int (nI i)), (0, .ref (adr 30)), (1, .int (nI d)), (2, .int (nI t)), (3, .int (nI u))]) hx hb dX4_hasNumber_78 hl (by decide) rfl (fun ls hl => ?_)
          refine lv_iinc (v := nI (i + 1)) (lv' := [(5, .int (nI (i + 1))), (4, .int 1), (0, .ref (adr 30)), (1, .int (nI d)), (2, .int (nI t)), (3, .int (nI u))]) hx hb dX4_hasNumber_80 hl (k := 1) rfl (nI_1 _) (by decide) rfl (fun ls hl => ?_)
          refine lv_goto (tgt := 6) hx hb dX4_hasNumber_83 (by decide) ?_
          exact ih (i + 1) true (by omega) (by omega) (by show (anB (fun i => c_see S d i && decide (c_nm S i = t * 512 + c_lf S t * 128 + u)) i || (c_see S d i && decide (c_nm S i = t * 512 + c_lf S t * 128 + u))) = _; rw [hq]; first | (rw [n17]; rfl) | (rw [n17, decide_eq_true (show c_nm S i = t * 512 + c_lf S t * 128 + u by omega), show c_see S d i = true from decide_eq_true (Int32.not_le.mp c70)]; rfl)) ls (lv_sub hl [0, 1, 2, 3, 4, 5] rfl)
        · have n17 : q = false := bI_0.mp c17
          refine lv_aload_n hx hb dX4_hasNumber_20 rfl (lv_at hl 2 rfl) ?_
          refine va_get (D := D) (ci := 4) (v := .ref (adr 35)) (C := RX4) (T := TX4) (N := 16) hx hb hG inG_X4 hown hK hP 30 (wl_at (by omega) hM0) rfl 6 (by decide) (hG _ g_499) (fun _ h9 => h9) rfl dX4_hasNumber_21 ?_
          refine lv_iload hx hb dX4_hasNumber_24 (lv_at hl 0 rfl) ?_
          refine wn_iald (j := i) hx hb hK hP (by omega) hM5 (by omega) (by decide) dX4_hasNumber_26 ?_
          refine lv_iload_n hx hb dX4_hasNumber_27 rfl (lv_at hl 4 rfl) ?_
          refine lv_icmp_ne (tgt := 77) hx hb dX4_hasNumber_28 (by decide) (fun c28 => ?_) (fun c28 => ?_)
          · have n28 : ¬ (c_nm S i / 512) = t := fun h7 => c28 ((nI_eq (a := (c_nm S i / 512)) (b := t) (by omega) (by omega)).mpr h7)
            refine lv_iconst (v := 0) hx hb dX4_hasNumber_77 (by decide) ?_
            refine lv_istore (lv' := [(4, .int 0), (5, .int (nI i)), (0, .ref (adr 30)), (1, .int (nI d)), (2, .int (nI t)), (3, .int (nI u))]) hx hb dX4_hasNumber_78 hl (by decide) rfl (fun ls hl => ?_)
            refine lv_iinc (v := nI (i + 1)) (lv' := [(5, .int (nI (i + 1))), (4, .int 0), (0, .ref (adr 30)), (1, .int (nI d)), (2, .int (nI t)), (3, .int (nI u))]) hx hb dX4_hasNumber_80 hl (k := 1) rfl (nI_1 _) (by decide) rfl (fun ls hl => ?_)
            refine lv_goto (tgt := 6) hx hb dX4_hasNumber_83 (by decide) ?_
            exact ih (i + 1) false (by omega) (by omega) (by show (anB (fun i => c_see S d i && decide (c_nm S i = t * 512 + c_lf S t * 128 + u)) i || (c_see S d i && decide (c_nm S i = t * 512 + c_lf S t * 128 + u))) = _; rw [hq, n17]; first | (rw [show c_see S d i = false from decide_eq_false (Int32.not_lt.mpr c70)]; rfl) | (rw [decide_eq_false (show ¬ c_nm S i = t * 512 + c_lf S t * 128 + u from fun h => by omega), Bool.and_false]; rfl)) ls (lv_sub hl [0, 1, 2, 3, 4, 5] rfl)
          · have n28 : (c_nm S i / 512) = t := (nI_eq (a := (c_nm S i / 512)) (b := t) (by omega) (by omega)).mp c28
            refine lv_aload_n hx hb dX4_hasNumber_31 rfl (lv_at hl 2 rfl) ?_
            refine va_get (D := D) (ci := 4) (v := .ref (adr 36)) (C := RX4) (T := TX4) (N := 16) hx hb hG inG_X4 hown hK hP 30 (wl_at (by omega) hM0) rfl 7 (by decide) (hG _ g_500) (fun _ h9 => h9) rfl dX4_hasNumber_32 ?_
            refine lv_iload hx hb dX4_hasNumber_35 (lv_at hl 0 rfl) ?_
            refine wn_iald (j := i) hx hb hK hP (by omega) hM6 (by omega) (by decide) dX4_hasNumber_37 ?_
            refine lv_aload_n hx hb dX4_hasNumber_38 rfl (lv_at hl 2 rfl) ?_
            refine va_get (D := D) (ci := 4) (v := .ref (adr 31)) (C := RX4) (T := TX4) (N := 16) hx hb hG inG_X4 hown hK hP 30 (wl_at (by omega) hM0) rfl 1 (by decide) (hG _ g_494) (fun _ h9 => h9) rfl dX4_hasNumber_39 ?_
            refine lv_iload_n hx hb dX4_hasNumber_42 rfl (lv_at hl 4 rfl) ?_
            refine wn_iald (j := t) hx hb hK hP (by omega) hM1 (by omega) (by decide) dX4_hasNumber_43 ?_
            refine lv_icmp_ne (tgt := 77) hx hb dX4_hasNumber_44 (by decide) (fun c44 => ?_) (fun c44 => ?_)
            · have n44 : ¬ (c_nm S i / 128 % 4) = (c_lf S t) := fun h7 => c44 ((nI_eq (a := (c_nm S i / 128 % 4)) (b := (c_lf S t)) (by omega) (by omega)).mpr h7)
              refine lv_iconst (v := 0) hx hb dX4_hasNumber_77 (by decide) ?_
              refine lv_istore (lv' := [(4, .int 0), (5, .int (nI i)), (0, .ref (adr 30)), (1, .int (nI d)), (2, .int (nI t)), (3, .int (nI u))]) hx hb dX4_hasNumber_78 hl (by decide) rfl (fun ls hl => ?_)
              refine lv_iinc (v := nI (i + 1)) (lv' := [(5, .int (nI (i + 1))), (4, .int 0), (0, .ref (adr 30)), (1, .int (nI d)), (2, .int (nI t)), (3, .int (nI u))]) hx hb dX4_hasNumber_80 hl (k := 1) rfl (nI_1 _) (by decide) rfl (fun ls hl => ?_)
              refine lv_goto (tgt := 6) hx hb dX4_hasNumber_83 (by decide) ?_
              exact ih (i + 1) false (by omega) (by omega) (by show (anB (fun i => c_see S d i && decide (c_nm S i = t * 512 + c_lf S t * 128 + u)) i || (c_see S d i && decide (c_nm S i = t * 512 + c_lf S t * 128 + u))) = _; rw [hq, n17]; first | (rw [show c_see S d i = false from decide_eq_false (Int32.not_lt.mpr c70)]; rfl) | (rw [decide_eq_false (show ¬ c_nm S i = t * 512 + c_lf S t * 128 + u from fun h => by omega), Bool.and_false]; rfl)) ls (lv_sub hl [0, 1, 2, 3, 4, 5] rfl)
            · have n44 : (c_nm S i / 128 % 4) = (c_lf S t) := (nI_eq (a := (c_nm S i / 128 % 4)) (b := (c_lf S t)) (by omega) (by omega)).mp c44
              refine lv_aload_n hx hb dX4_hasNumber_47 rfl (lv_at hl 2 rfl) ?_
              refine va_get (D := D) (ci := 4) (v := .ref (adr 37)) (C := RX4) (T := TX4) (N := 16) hx hb hG inG_X4 hown hK hP 30 (wl_at (by omega) hM0) rfl 8 (by decide) (hG _ g_501) (fun _ h9 => h9) rfl dX4_hasNumber_48 ?_
              refine lv_iload hx hb dX4_hasNumber_51 (lv_at hl 0 rfl) ?_
              refine wn_iald (j := i) hx hb hK hP (by omega) hM7 (by omega) (by decide) dX4_hasNumber_53 ?_
              refine lv_iload_n hx hb dX4_hasNumber_54 rfl (lv_at hl 5 rfl) ?_
              refine lv_icmp_ne (tgt := 77) hx hb dX4_hasNumber_55 (by decide) (fun c55 => ?_) (fun c55 => ?_)
              · have n55 : ¬ (c_nm S i % 128) = u := fun h7 => c55 ((nI_eq (a := (c_nm S i % 128)) (b := u) (by omega) (by omega)).mpr h7)
                refine lv_iconst (v := 0) hx hb dX4_hasNumber_77 (by decide) ?_
                refine lv_istore (lv' := [(4, .int 0), (5, .int (nI i)), (0, .ref (adr 30)), (1, .int (nI d)), (2, .int (nI t)), (3, .int (nI u))]) hx hb dX4_hasNumber_78 hl (by decide) rfl (fun ls hl => ?_)
                refine lv_iinc (v := nI (i + 1)) (lv' := [(5, .int (nI (i + 1))), (4, .int 0), (0, .ref (adr 30)), (1, .int (nI d)), (2, .int (nI t)), (3, .int (nI u))]) hx hb dX4_hasNumber_80 hl (k := 1) rfl (nI_1 _) (by decide) rfl (fun ls hl => ?_)
                refine lv_goto (tgt := 6) hx hb dX4_hasNumber_83 (by decide) ?_
                exact ih (i + 1) false (by omega) (by omega) (by show (anB (fun i => c_see S d i && decide (c_nm S i = t * 512 + c_lf S t * 128 + u)) i || (c_see S d i && decide (c_nm S i = t * 512 + c_lf S t * 128 + u))) = _; rw [hq, n17]; first | (rw [show c_see S d i = false from decide_eq_false (Int32.not_lt.mpr c70)]; rfl) | (rw [decide_eq_false (show ¬ c_nm S i = t * 512 + c_lf S t * 128 + u from fun h => by omega), Bool.and_false]; rfl)) ls (lv_sub hl [0, 1, 2, 3, 4, 5] rfl)
              · have n55 : (c_nm S i % 128) = u := (nI_eq (a := (c_nm S i % 128)) (b := u) (by omega) (by omega)).mp c55
                refine lv_aload_n hx hb dX4_hasNumber_58 rfl (lv_at hl 2 rfl) ?_
                refine va_get (D := D) (ci := 4) (v := .ref (adr 42)) (C := RX4) (T := TX4) (N := 16) hx hb hG inG_X4 hown hK hP 30 (wl_at (by omega) hM0) rfl 13 (by decide) (hG _ g_506) (fun _ h9 => h9) rfl dX4_hasNumber_59 ?_
                refine lv_bipush (v := 120) hx hb dX4_hasNumber_62 (by decide) ?_
                refine lv_iload_n hx hb dX4_hasNumber_64 rfl (lv_at hl 3 rfl) ?_
                refine lv_imul hx hb dX4_hasNumber_65 ?_
                refine lv_topi (fun y9 e9 => ?_)
                have e9 : y9 = nI (120 * d) := e9.trans (pk_mul 120 d)
                subst e9
                refine lv_iload hx hb dX4_hasNumber_66 (lv_at hl 0 rfl) ?_
                refine lv_iadd hx hb dX4_hasNumber_68 ?_
                refine lv_topi (fun y9 e9 => ?_)
                have e9 : y9 = nI ((120 * d) + i) := e9.trans (nI_add (120 * d) i)
                subst e9
                refine wn_ialde (j := ((120 * d) + i)) (v := c_mo S d i) hx hb hK hP (by omega) hM12 (by omega) (by decide) (fl_at (c_mo S) (by omega)) dX4_hasNumber_69 ?_
                refine lv_if_le (tgt := 77) hx hb dX4_hasNumber_70 (by decide) (fun c70 => ?_) (fun c70 => ?_)
                · refine lv_iconst (v := 0) hx hb dX4_hasNumber_77 (by decide) ?_
                  refine lv_istore (lv' := [(4, .int 0), (5, .int (nI i)), (0, .ref (adr 30)), (1, .int (nI d)), (2, .int (nI t)), (3, .int (nI u))]) hx hb dX4_hasNumber_78 hl (by decide) rfl (fun ls hl => ?_)
                  refine lv_iinc (v := nI (i + 1)) (lv' := [(5, .int (nI (i + 1))), (4, .int 0), (0, .ref (adr 30)), (1, .int (nI d)), (2, .int (nI t)), (3, .int (nI u))]) hx hb dX4_hasNumber_80 hl (k := 1) rfl (nI_1 _) (by decide) rfl (fun ls hl => ?_)
                  refine lv_goto (tgt := 6) hx hb dX4_hasNumber_83 (by decide) ?_
                  exact ih (i + 1) false (by omega) (by omega) (by show (anB (fun i => c_see S d i && decide (c_nm S i = t * 512 + c_lf S t * 128 + u)) i || (c_see S d i && decide (c_nm S i = t * 512 + c_lf S t * 128 + u))) = _; rw [hq, n17]; first | (rw [show c_see S d i = false from decide_eq_false (Int32.not_lt.mpr c70)]; rfl) | (rw [decide_eq_false (show ¬ c_nm S i = t * 512 + c_lf S t * 128 + u from fun h => by omega), Bool.and_false]; rfl)) ls (lv_sub hl [0, 1, 2, 3, 4, 5] rfl)
                · refine lv_iconst (v := 1) hx hb dX4_hasNumber_73 (by decide) ?_
                  refine lv_goto (tgt := 78) hx hb dX4_hasNumber_74 (by decide) ?_
                  refine lv_istore (lv' := [(4, .int 1), (5, .int (nI i)), (0, .ref (adr 30)), (1, .int (nI d)), (2, .int (nI t)), (3, .int (nI u))]) hx hb dX4_hasNumber_78 hl (by decide) rfl (fun ls hl => ?_)
                  refine lv_iinc (v := nI (i + 1)) (lv' := [(5, .int (nI (i + 1))), (4, .int 1), (0, .ref (adr 30)), (1, .int (nI d)), (2, .int (nI t)), (3, .int (nI u))]) hx hb dX4_hasNumber_80 hl (k := 1) rfl (nI_1 _) (by decide) rfl (fun ls hl => ?_)
                  refine lv_goto (tgt := 6) hx hb dX4_hasNumber_83 (by decide) ?_
                  exact ih (i + 1) true (by omega) (by omega) (by show (anB (fun i => c_see S d i && decide (c_nm S i = t * 512 + c_lf S t * 128 + u)) i || (c_see S d i && decide (c_nm S i = t * 512 + c_lf S t * 128 + u))) = _; rw [hq]; first | (rw [n17]; rfl) | (rw [n17, decide_eq_true (show c_nm S i = t * 512 + c_lf S t * 128 + u by omega), show c_see S d i = true from decide_eq_true (Int32.not_le.mp c70)]; rfl)) ls (lv_sub hl [0, 1, 2, 3, 4, 5] rfl)
  exact L6 (c_ct S + 1) 0 false (by omega) (by omega) rfl ls (lv_sub hl [0, 1, 2, 3, 4, 5] rfl)

set_option maxHeartbeats 4000000 in
set_option maxRecDepth 100000 in
theorem cX4_lastOf_r {l : Launch} {D : va_G} {cA : Nat → ClassId} {adr : Nat → Nat} {n : Nat} {E : Nat → va_E} {S : CS} {th : Int32} (hn : 45 ≤ n) (hV : Inv S) (hR : RepM cA adr S th E) {d key : Nat} (hd : d < 3) (hky : key < 8) (mm : Int32) : Met l yX4_lastOf (.code yX4_lastOf cX4_lastOf 6 (some .int) :: lw_G) ({ frames := 3, cells := 0, slots := 0, locals := 72 } : Room) (va_Pc [.ref (adr 30), .int (nI d), .int (nI key), .int mm] (wdU D (kty cA) adr n E)) (QcRead (oI (c_lst S d key mm))) 0 0 (fun _ => False) := by
  refine Met.ofW (cc := cX4_lastOf) (maxL := 6) (ret := (some .int)) (by decide) rfl ?_
  intro p e s m args below meth c s₁ B hml hv
  obtain ⟨rfl, hP, hN⟩ := hv
  have hx := B.exec
  have hb := B.bytes
  have hr := B.returns
  have hG : ∀ w ∈ lw_G, w.before _ s = true := fun w h => atoms_spec (ws := _ :: lw_G) B.pre w (List.mem_cons_of_mem _ h)
  have hown : s.vm.findClass RX4 = some m.cls := findClass_of_methodNamed B.named
  have hlocks := B.notSynchronized
  have hK := hN.1
  have hl := lv_entry ([.ref (adr 30), .int (nI d), .int (nI key), .int mm]) (n := 6) (Nat.le_of_ble_eq_true rfl)
  rw [lg_entry_eq]
  generalize (lg_sl ([.ref (adr 30), .int (nI d), .int (nI key), .int mm]) ++ List.replicate (6 - (lg_sl ([.ref (adr 30), .int (nI d), .int (nI key), .int mm])).length) Slot.unset).toArray = ls at hl ⊢
  have hl : lv_has ls 6 [(0, .ref (adr 30)), (1, .int (nI d)), (2, .int (nI key)), (3, .int mm)] := hl
  obtain ⟨hM0, hM1, hM2, hM3, hM4, hM5, hM6, hM7, hM8, hM9, hM10, hM11, hM12, hM13, hM14⟩ := id hR
  obtain ⟨hct, hnm, htd, hmk, hlf, hnt, hnu, hcn, hmz, hmm, hib, hmr, hrise⟩ := id hV
  refine lv_iconst (v := (-1)) hx hb dX4_lastOf_0 (by decide) ?_
  refine lv_istore (lv' := [(4, .int (-1)), (0, .ref (adr 30)), (1, .int (nI d)), (2, .int (nI key)), (3, .int mm)]) hx hb dX4_lastOf_1 hl (by decide) rfl (fun ls hl => ?_)
  refine lv_iconst (v := 0) hx hb dX4_lastOf_3 (by decide) ?_
  refine lv_istore (lv' := [(5, .int 0), (4, .int (-1)), (0, .ref (adr 30)), (1, .int (nI d)), (2, .int (nI key)), (3, .int mm)]) hx hb dX4_lastOf_4 hl (by decide) rfl (fun ls hl => ?_)
  have L6 : ∀ (f : Nat) (i : Nat) (b : Option Nat), c_ct S - i < f → i ≤ c_ct S → lsB (fun i => decide (c_td S i / 2 ^ 20 % 8 = key) && c_had S d i mm && c_cnt S d i mm) (c_ltr S) i = b → ∀ ls : Array Slot, lv_has ls 6 [(5, .int (nI i)), (4, .int (oI b)), (0, .ref (adr 30)), (1, .int (nI d)), (2, .int (nI key)), (3, .int mm)] → W p l e (headSpec (.code yX4_lastOf cX4_lastOf 6 (some .int) :: lw_G) ({ frames := 3, cells := 0, slots := 0, locals := 72 } : Room)).room s m [.ref (adr 30), .int (nI d), .int (nI key), .int mm].toArray below meth c s.heap [] 0 0 (MQ below (QcRead (oI (c_lst S d key mm))) [.ref (adr 30), .int (nI d), .int (nI key), .int mm].toArray s 0 0 (fun _ => False)) (F0 m 6 ls []) := by
    intro f
    induction f with
    | zero => intro i b h0; exact absurd h0 (by omega)
    | succ f ih =>
      intro i b hf hi hq ls hl
      refine lv_iload hx hb dX4_lastOf_6 (lv_at hl 0 rfl) ?_
      refine lv_aload_n hx hb dX4_lastOf_8 rfl (lv_at hl 2 rfl) ?_
      refine va_get (D := D) (ci := 4) (v := .int (nI (c_ct S))) (C := RX4) (T := TX4) (N := 16) hx hb hG inG_X4 hown hK hP 30 (wl_at (by omega) hM0) rfl 5 (by decide) (hG _ g_498) (fun _ h9 => h9) rfl dX4_lastOf_9 ?_
      refine lv_icmp_ge (tgt := 63) hx hb dX4_lastOf_12 (by decide) (fun c12 => ?_) (fun c12 => ?_)
      · have n12 : (c_ct S) ≤ i := (nI_leI (a := (c_ct S)) (b := i) (by omega) (by omega)).mp c12
        refine lv_iload hx hb dX4_lastOf_63 (lv_at hl 1 rfl) ?_
        have h9 : (oI b : Int32) = oI (c_lst S d key mm) := by unfold c_lst; rw [show c_ct S = i from by omega, hq]
        exact W.iret (v := oI b) hx hb hr (fun t ht _ => ⟨congrArg (fun z => Outcome.returned (some (Value.int z))) h9, ht⟩) (fun _ h => nomatch h) dX4_lastOf_65
      · have n12 : ¬ (c_ct S) ≤ i := fun h7 => c12 ((nI_leI (a := (c_ct S)) (b := i) (by omega) (by omega)).mpr h7)
        have b2 := htd i
        refine lv_aload_n hx hb dX4_lastOf_15 rfl (lv_at hl 2 rfl) ?_
        refine va_get (D := D) (ci := 4) (v := .ref (adr 38)) (C := RX4) (T := TX4) (N := 16) hx hb hG inG_X4 hown hK hP 30 (wl_at (by omega) hM0) rfl 9 (by decide) (hG _ g_502) (fun _ h9 => h9) rfl dX4_lastOf_16 ?_
        refine lv_iload hx hb dX4_lastOf_19 (lv_at hl 0 rfl) ?_
        refine wn_iald (j := i) hx hb hK hP (by omega) hM8 (by omega) (by decide) dX4_lastOf_21 ?_
        refine lv_iload_n hx hb dX4_lastOf_22 rfl (lv_at hl 4 rfl) ?_
        refine lv_icmp_ne (tgt := 57) hx hb dX4_lastOf_23 (by decide) (fun c23 => ?_) (fun c23 => ?_)
        · have n23 : ¬ (c_td S i / 2 ^ 20 % 8) = key := fun h7 => c23 ((nI_eq (a := (c_td S i / 2 ^ 20 % 8)) (b := key) (by omega) (by omega)).mpr h7)
          refine lv_iinc (v := nI (i + 1)) (lv' := [(5, .int (nI (i + 1))), (4, .int (oI b)), (0, .ref (adr 30)), (1, .int (nI d)), (2, .int (nI key)), (3, .int mm)]) hx hb dX4_lastOf_57 hl (k := 0) rfl (nI_1 _) (by decide) rfl (fun ls hl => ?_)
          refine lv_goto (tgt := 6) hx hb dX4_lastOf_60 (by decide) ?_
          exact ih (i + 1) b (by omega) (by omega) (by simp only [lsB, hq]; first | (rw [show (decide (c_td S i / 2 ^ 20 % 8 = key) && c_had S d i mm && c_cnt S d i mm) = false from by rw [Bool.and_assoc, n34, Bool.and_false]]; rfl) | (rw [show decide (c_td S i / 2 ^ 20 % 8 = key) = false from by simpa using n23]; rfl)) ls (lv_sub hl [0, 1, 2, 3, 4, 5] rfl)
        · have n23 : (c_td S i / 2 ^ 20 % 8) = key := (nI_eq (a := (c_td S i / 2 ^ 20 % 8)) (b := key) (by omega) (by omega)).mp c23
          refine lv_aload_n hx hb dX4_lastOf_26 rfl (lv_at hl 2 rfl) ?_
          refine lv_iload_n hx hb dX4_lastOf_27 rfl (lv_at hl 3 rfl) ?_
          refine lv_iload hx hb dX4_lastOf_28 (lv_at hl 0 rfl) ?_
          refine lv_iload_n hx hb dX4_lastOf_30 rfl (lv_at hl 5 rfl) ?_
          refine wn_rV (rest := []) hx hb hml hown hG hN hP (cX4_counts_r hn hV hR (d := d) (i := i) hd (by omega) mm) (cwV 3 hG (gV g_631 g_633 gp_X4_counts g_5 g_634) rfl rfl rfl (by decide +kernel) ⟨Nat.le_of_ble_eq_true rfl, Nat.le_of_ble_eq_true rfl⟩) (by omega) hM0 rfl rfl hl.1 rfl (Nat.le_of_ble_eq_true rfl) dX4_lastOf_31 ⟨Nat.le_of_ble_eq_true rfl, Nat.le_of_ble_eq_true rfl⟩ ?_
          refine lv_if_eq (tgt := 57) hx hb dX4_lastOf_34 (by decide) (fun c34 => ?_) (fun c34 => ?_)
          · have n34 : (c_had S d i mm && c_cnt S d i mm) = false := bI_0.mp c34
            refine lv_iinc (v := nI (i + 1)) (lv' := [(5, .int (nI (i + 1))), (4, .int (oI b)), (0, .ref (adr 30)), (1, .int (nI d)), (2, .int (nI key)), (3, .int mm)]) hx hb dX4_lastOf_57 hl (k := 0) rfl (nI_1 _) (by decide) rfl (fun ls hl => ?_)
            refine lv_goto (tgt := 6) hx hb dX4_lastOf_60 (by decide) ?_
            exact ih (i + 1) b (by omega) (by omega) (by simp only [lsB, hq]; first | (rw [show (decide (c_td S i / 2 ^ 20 % 8 = key) && c_had S d i mm && c_cnt S d i mm) = false from by rw [Bool.and_assoc, n34, Bool.and_false]]; rfl) | (rw [show decide (c_td S i / 2 ^ 20 % 8 = key) = false from by simpa using n23]; rfl)) ls (lv_sub hl [0, 1, 2, 3, 4, 5] rfl)
          · have n34 : (c_had S d i mm && c_cnt S d i mm) = true := bI_1.mp c34
            refine lv_iload hx hb dX4_lastOf_37 (lv_at hl 1 rfl) ?_
            refine lv_if_lt (tgt := 53) hx hb dX4_lastOf_39 (by decide) (fun c39 => ?_) (fun c39 => ?_)
            · have hbn : b = none := by cases b with | none => rfl | some z => exact absurd c39 (nI_pos (by have := lsB_lt hq; omega))
              subst hbn
              refine lv_iload hx hb dX4_lastOf_53 (lv_at hl 0 rfl) ?_
              refine lv_istore (lv' := [(4, .int (nI i)), (5, .int (nI i)), (0, .ref (adr 30)), (1, .int (nI d)), (2, .int (nI key)), (3, .int mm)]) hx hb dX4_lastOf_55 hl (by decide) rfl (fun ls hl => ?_)
              refine lv_iinc (v := nI (i + 1)) (lv' := [(5, .int (nI (i + 1))), (4, .int (nI i)), (0, .ref (adr 30)), (1, .int (nI d)), (2, .int (nI key)), (3, .int mm)]) hx hb dX4_lastOf_57 hl (k := 1) rfl (nI_1 _) (by decide) rfl (fun ls hl => ?_)
              refine lv_goto (tgt := 6) hx hb dX4_lastOf_60 (by decide) ?_
              exact ih (i + 1) (some i) (by omega) (by omega) (by simp only [lsB, hq]; rw [show decide (c_td S i / 2 ^ 20 % 8 = key) = true from by simpa using n23, Bool.true_and, n34]; rfl) ls (lv_sub hl [0, 1, 2, 3, 4, 5] rfl)
            · obtain ⟨z, hz⟩ : ∃ z, b = some z := by cases b with | none => exact absurd (show oI none < 0 by decide) c39 | some z => exact ⟨z, rfl⟩
              subst hz
              have bz := lsB_lt hq
              refine lv_aload_n hx hb dX4_lastOf_42 rfl (lv_at hl 2 rfl) ?_
              refine lv_iload hx hb dX4_lastOf_43 (lv_at hl 0 rfl) ?_
              refine lv_iload hx hb dX4_lastOf_45 (lv_at hl 1 rfl) ?_
              refine wn_rV (rest := []) hx hb hml hown hG hN hP (cX4_isLater_r hn hV hR (i := i) (j := z) (by omega) (by omega)) (cwV 2 hG (gV g_635 g_637 gp_X4_isLater g_5 g_638) rfl rfl rfl (by decide +kernel) ⟨Nat.le_of_ble_eq_true rfl, Nat.le_of_ble_eq_true rfl⟩) (by omega) hM0 rfl rfl hl.1 rfl (Nat.le_of_ble_eq_true rfl) dX4_lastOf_47 ⟨Nat.le_of_ble_eq_true rfl, Nat.le_of_ble_eq_true rfl⟩ ?_
              refine lv_if_eq (tgt := 57) hx hb dX4_lastOf_50 (by decide) (fun c50 => ?_) (fun c50 => ?_)
              · have n50 : (c_ltr S i z) = false := bI_0.mp c50
                refine lv_iinc (v := nI (i + 1)) (lv' := [(5, .int (nI (i + 1))), (4, .int (nI z)), (0, .ref (adr 30)), (1, .int (nI d)), (2, .int (nI key)), (3, .int mm)]) hx hb dX4_lastOf_57 hl (k := 0) rfl (nI_1 _) (by decide) rfl (fun ls hl => ?_)
                refine lv_goto (tgt := 6) hx hb dX4_lastOf_60 (by decide) ?_
                exact ih (i + 1) (some z) (by omega) (by omega) (by simp only [lsB, hq]; rw [n50, Bool.and_false]; rfl) ls (lv_sub hl [0, 1, 2, 3, 4, 5] rfl)
              · have n50 : (c_ltr S i z) = true := bI_1.mp c50
                refine lv_iload hx hb dX4_lastOf_53 (lv_at hl 0 rfl) ?_
                refine lv_istore (lv' := [(4, .int (nI i)), (5, .int (nI i)), (0, .ref (adr 30)), (1, .int (nI d)), (2, .int (nI key)), (3, .int mm)]) hx hb dX4_lastOf_55 hl (by decide) rfl (fun ls hl => ?_)
                refine lv_iinc (v := nI (i + 1)) (lv' := [(5, .int (nI (i + 1))), (4, .int (nI i)), (0, .ref (adr 30)), (1, .int (nI d)), (2, .int (nI key)), (3, .int mm)]) hx hb dX4_lastOf_57 hl (k := 1) rfl (nI_1 _) (by decide) rfl (fun ls hl => ?_)
                refine lv_goto (tgt := 6) hx hb dX4_lastOf_60 (by decide) ?_
                exact ih (i + 1) (some i) (by omega) (by omega) (by simp only [lsB, hq]; rw [show decide (c_td S i / 2 ^ 20 % 8 = key) = true from by simpa using n23, Bool.true_and, n34, n50]; rfl) ls (lv_sub hl [0, 1, 2, 3, 4, 5] rfl)
  exact L6 (c_ct S + 1) 0 none (by omega) (by omega) rfl ls (lv_sub hl [0, 1, 2, 3, 4, 5] rfl)
