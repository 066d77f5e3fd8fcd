set_option maxHeartbeats 4000000 in
set_option maxRecDepth 100000 in
theorem cX1_addMark_w {l : Launch} {D : va_G} {cA : Nat → ClassId} {adr : Nat → Nat} {n : Nat} {E : Nat → va_E} {lo : Nat} (hAd : wd_ad lo n adr) {k mk lf : Nat} {ow re : Nat → Int32} (hk : k + 2 < n) (hm : mk ≤ 6) (hE0 : E k = .inr (1, [.ref (adr (k + 1)), .ref (adr (k + 2)), .int (nI mk), .int (nI lf)])) (hE1 : E (k + 1) = .inl (cA 0, 6, .inl ow)) (hE2 : E (k + 2) = .inl (cA 0, 6, .inl re)) (hm6 : mk < 6) (a b : Int32) : Met l yX1_addMark (.code yX1_addMark cX1_addMark 3 none :: lw_G) ({ frames := 0, cells := 0, slots := 0, locals := 0 } : Room) (va_Pc [.ref (adr k), .int a, .int b] (wdU D (kty cA) adr n E)) (wq D lo adr n (none) (fun E2 => E2 k = .inr (1, [.ref (adr (k + 1)), .ref (adr (k + 2)), .int (nI (mk + 1)), .int (nI lf)]) ∧ E2 (k + 1) = .inl (cA 0, 6, .inl (upd ow mk a)) ∧ E2 (k + 2) = .inl (cA 0, 6, .inl (upd re mk b)) ∧ ∀ j, j ≠ k → j ≠ k + 1 → j ≠ k + 2 → E2 j = E j)) 0 0 (fun q => lo ≤ q) := by
  refine Met.ofW (cc := cX1_addMark) (maxL := 3) (ret := none) (by decide) rfl ?_
  intro p e s m args below meth c s₁ B hml hv
  obtain ⟨rfl, hP, hN⟩ := hv
  have hx := B.exec
  have hb := B.bytes
  have hr := B.returns
  have hG : ∀ w ∈ lw_G, w.before _ s = true := fun w h => atoms_spec (ws := _ :: lw_G) B.pre w (List.mem_cons_of_mem _ h)
  have hown : s.vm.findClass RX1 = some m.cls := findClass_of_methodNamed B.named
  have hlocks := B.notSynchronized
  have hK := hN.1
  have hS : va_S (fun q => lo ≤ q) s.heap s.heap [] := va_S.rf
  have hF : ∀ j, j ≠ k → j ≠ k + 1 → j ≠ k + 2 → E j = E j := fun j _ _ _ => rfl
  have hl := lv_entry ([.ref (adr k), .int a, .int b]) (n := 3) (Nat.le_of_ble_eq_true rfl)
  rw [lg_entry_eq]
  generalize (lg_sl ([.ref (adr k), .int a, .int b]) ++ List.replicate (3 - (lg_sl ([.ref (adr k), .int a, .int b])).length) Slot.unset).toArray = ls at hl ⊢
  have hl : lv_has ls 3 [(0, .ref (adr k)), (1, .int a), (2, .int b)] := hl
  refine lv_aload_n hx hb dX1_addMark_0 rfl (lv_at hl 0 rfl) ?_
  refine va_get (D := D) (ci := 1) (v := .ref (adr (k + 1))) (C := RX1) (T := TX1) (N := 4) hx hb hG inG_X1 hown hK hP k (wl_at (by omega) hE0) rfl 0 (by decide) (hG _ g_60) (fun _ h9 => h9) rfl dX1_addMark_1 ?_
  refine lv_aload_n hx hb dX1_addMark_4 rfl (lv_at hl 0 rfl) ?_
  refine va_get (D := D) (ci := 1) (v := .int (nI mk)) (C := RX1) (T := TX1) (N := 4) hx hb hG inG_X1 hown hK hP k (wl_at (by omega) hE0) rfl 2 (by decide) (hG _ g_62) (fun _ h9 => h9) rfl dX1_addMark_5 ?_
  refine lv_iload_n hx hb dX1_addMark_8 rfl (lv_at hl 1 rfl) ?_
  refine wn_iast (j := mk) hx hb hK hAd hP hS (by omega) hE1 (by omega) (by decide) dX1_addMark_9 (fun H locs hP hS => ?_)
  obtain ⟨E1x, hE1x⟩ : ∃ z, z = va_up E (k + 1) (.inl (cA 0, 6, .inl (upd ow mk a))) := ⟨_, rfl⟩
  have hP : va_P D kcl (wl adr n E1x) H := by rw [hE1x]; exact hP
  have hE0 := (show E1x k = E k from by rw [hE1x, va_up_ne _ _ (by omega)]).trans hE0
  have hE1 : E1x (k + 1) = .inl (cA 0, 6, .inl (upd ow mk a)) := by rw [hE1x, va_up_self]
  have hE2 := (show E1x (k + 2) = E (k + 2) from by rw [hE1x, va_up_ne _ _ (by omega)]).trans hE2
  have hF : ∀ j, j ≠ k → j ≠ k + 1 → j ≠ k + 2 → E1x j = E j := fun j z0 z1 z2 => (show E1x j = E j from by rw [hE1x, va_up_ne _ _ z1]).trans (hF j z0 z1 z2)
  refine lv_aload_n hx hb dX1_addMark_10 rfl (lv_at hl 0 rfl) ?_
  refine va_get (D := D) (ci := 1) (v := .ref (adr (k + 2))) (C := RX1) (T := TX1) (N := 4) hx hb hG inG_X1 hown hK hP k (wl_at (by omega) hE0) rfl 1 (by decide) (hG _ g_61) (fun _ h9 => h9) rfl dX1_addMark_11 ?_
  refine lv_aload_n hx hb dX1_addMark_14 rfl (lv_at hl 0 rfl) ?_
  refine va_get (D := D) (ci := 1) (v := .int (nI mk)) (C := RX1) (T := TX1) (N := 4) hx hb hG inG_X1 hown hK hP k (wl_at (by omega) hE0) rfl 2 (by decide) (hG _ g_62) (fun _ h9 => h9) rfl dX1_addMark_15 ?_
  refine lv_iload_n hx hb dX1_addMark_18 rfl (lv_at hl 2 rfl) ?_
  refine wn_iast (j := mk) hx hb hK hAd hP hS (by omega) hE2 (by omega) (by decide) dX1_addMark_19 (fun H locs hP hS => ?_)
  obtain ⟨E2x, hE2x⟩ : ∃ z, z = va_up E1x (k + 2) (.inl (cA 0, 6, .inl (upd re mk b))) := ⟨_, rfl⟩
  have hP : va_P D kcl (wl adr n E2x) H := by rw [hE2x]; exact hP
  have hE0 := (show E2x k = E1x k from by rw [hE2x, va_up_ne _ _ (by omega)]).trans hE0
  have hE1 := (show E2x (k + 1) = E1x (k + 1) from by rw [hE2x, va_up_ne _ _ (by omega)]).trans hE1
  have hE2 : E2x (k + 2) = .inl (cA 0, 6, .inl (upd re mk b)) := by rw [hE2x, va_up_self]
  have hF : ∀ j, j ≠ k → j ≠ k + 1 → j ≠ k + 2 → E2x j = E j := fun j z0 z1 z2 => (show E2x j = E1x j from by rw [hE2x, va_up_ne _ _ z2]).trans (hF j z0 z1 z2)
  refine lv_aload_n hx hb dX1_addMark_20 rfl (lv_at hl 0 rfl) ?_
  refine lv_dup hx hb dX1_addMark_21 rfl ?_
  refine va_get (D := D) (ci := 1) (v := .int (nI mk)) (C := RX1) (T := TX1) (N := 4) hx hb hG inG_X1 hown hK hP k (wl_at (by omega) hE0) rfl 2 (by decide) (hG _ g_62) (fun _ h9 => h9) rfl dX1_addMark_22 ?_
  refine lv_iconst (v := 1) hx hb dX1_addMark_25 (by decide) ?_
  refine lv_iadd hx hb dX1_addMark_26 ?_
  refine lv_topi (fun y9 e9 => ?_)
  have e9 : y9 = nI (mk + 1) := e9.trans (nI_1 mk)
  subst e9
  refine wd_put (ci := 1) (C := RX1) (T := TX1) (N := 4) (v := .int (nI (mk + 1))) (ty := .int) hx hb hG inG_X1 tyX1 tyX1_ok nmX1 hown hK hAd hP hS (k0 := k) (by omega) hE0 rfl 2 (by decide) (hG _ g_62) (fun _ h9 => h9) rfl (by decide +kernel) rfl rfl (Nat.le_of_ble_eq_true rfl) dX1_addMark_27 (fun H locs hP hS => ?_)
  obtain ⟨E3x, hE3x⟩ : ∃ z, z = va_up E2x k (.inr (1, [.ref (adr (k + 1)), .ref (adr (k + 2)), .int (nI (mk + 1)), .int (nI lf)])) := ⟨_, rfl⟩
  have hP : va_P D kcl (wl adr n E3x) H := by rw [hE3x]; exact hP
  have hE0 : E3x k = .inr (1, [.ref (adr (k + 1)), .ref (adr (k + 2)), .int (nI (mk + 1)), .int (nI lf)]) := by rw [hE3x, va_up_self]
  have hE1 := (show E3x (k + 1) = E2x (k + 1) from by rw [hE3x, va_up_ne _ _ (by omega)]).trans hE1
  have hE2 := (show E3x (k + 2) = E2x (k + 2) from by rw [hE3x, va_up_ne _ _ (by omega)]).trans hE2
  have hF : ∀ j, j ≠ k → j ≠ k + 1 → j ≠ k + 2 → E3x j = E j := fun j z0 z1 z2 => (show E3x j = E2x j from by rw [hE3x, va_up_ne _ _ z0]).trans (hF j z0 z1 z2)
  exact W.vret hx hb hr (fun t ht _ => ⟨rfl, E3x, ⟨hE0, hE1, hE2, hF⟩, by rw [ht]; exact hP, hS.F ht⟩) hS.2.2 dX1_addMark_30

set_option maxHeartbeats 4000000 in
set_option maxRecDepth 100000 in
theorem cX2_add_w {l : Launch} {D : va_G} {cA : Nat → ClassId} {adr : Nat → Nat} {n : Nat} {E : Nat → va_E} {lo : Nat} (hAd : wd_ad lo n adr) {k ct : Nat} {nm td : Nat → Nat} {vl : Nat → Int32} {sd : Nat → Bool} (hk : k + 4 < n) (hct : ct ≤ 120) (hE0 : E k = .inr (2, [.ref (adr (k + 1)), .ref (adr (k + 2)), .ref (adr (k + 3)), .ref (adr (k + 4)), .int (nI ct)])) (hE1 : E (k + 1) = .inl (cA 0, 120, .inl (fun j => nI (nm j)))) (hE2 : E (k + 2) = .inl (cA 0, 120, .inl (fun j => nI (td j)))) (hE3 : E (k + 3) = .inl (cA 0, 120, .inl vl)) (hE4 : E (k + 4) = .inl (cA 1, 120, .inl (fun j => bI (sd j)))) (hnm : ∀ j, nm j < 2560) (htd : ∀ j, td j < 2 ^ 30) (hc2 : ct < 120) {a b : Nat} (v : Int32) : Met l yX2_add (.code yX2_add cX2_add 5 (some .int) :: lw_G) ({ frames := 0, cells := 0, slots := 0, locals := 0 } : Room) (va_Pc [.ref (adr k), .int (nI a), .int (nI b), .int v] (wdU D (kty cA) adr n E)) (wq D lo adr n (some (.int (nI ct))) (fun E2 => E2 k = .inr (2, [.ref (adr (k + 1)), .ref (adr (k + 2)), .ref (adr (k + 3)), .ref (adr (k + 4)), .int (nI (ct + 1))]) ∧ E2 (k + 1) = .inl (cA 0, 120, .inl (fun j => nI (upN nm ct a j))) ∧ E2 (k + 2) = .inl (cA 0, 120, .inl (fun j => nI (upN td ct b j))) ∧ E2 (k + 3) = .inl (cA 0, 120, .inl (upd vl ct v)) ∧ ∀ j, j ≠ k → j ≠ k + 1 → j ≠ k + 2 → j ≠ k + 3 → E2 j = E j)) 0 0 (fun q => lo ≤ q) := by
  refine Met.ofW (cc := cX2_add) (maxL := 5) (ret := (some .int)) (by decide) rfl ?_
  intro p e s m args below meth c s₁ B hml hv
  obtain ⟨rfl, hP, hN⟩ := hv
  have hx := B.exec
  have hb := B.bytes
  have hr := B.returns
  have hG : ∀ w ∈ lw_G, w.before _ s = true := fun w h => atoms_spec (ws := _ :: lw_G) B.pre w (List.mem_cons_of_mem _ h)
  have hown : s.vm.findClass RX2 = some m.cls := findClass_of_methodNamed B.named
  have hlocks := B.notSynchronized
  have hK := hN.1
  have hS : va_S (fun q => lo ≤ q) s.heap s.heap [] := va_S.rf
  have hF : ∀ j, j ≠ k → j ≠ k + 1 → j ≠ k + 2 → j ≠ k + 3 → E j = E j := fun j _ _ _ _ => rfl
  have hl := lv_entry ([.ref (adr k), .int (nI a), .int (nI b), .int v]) (n := 5) (Nat.le_of_ble_eq_true rfl)
  rw [lg_entry_eq]
  generalize (lg_sl ([.ref (adr k), .int (nI a), .int (nI b), .int v]) ++ List.replicate (5 - (lg_sl ([.ref (adr k), .int (nI a), .int (nI b), .int v])).length) Slot.unset).toArray = ls at hl ⊢
  have hl : lv_has ls 5 [(0, .ref (adr k)), (1, .int (nI a)), (2, .int (nI b)), (3, .int v)] := hl
  refine lv_aload_n hx hb dX2_add_0 rfl (lv_at hl 0 rfl) ?_
  refine va_get (D := D) (ci := 2) (v := .int (nI ct)) (C := RX2) (T := TX2) (N := 5) hx hb hG inG_X2 hown hK hP k (wl_at (by omega) hE0) rfl 4 (by decide) (hG _ g_40) (fun _ h9 => h9) rfl dX2_add_1 ?_
  refine lv_istore (lv' := [(4, .int (nI ct)), (0, .ref (adr k)), (1, .int (nI a)), (2, .int (nI b)), (3, .int v)]) hx hb dX2_add_4 hl (by decide) rfl (fun ls hl => ?_)
  refine lv_aload_n hx hb dX2_add_6 rfl (lv_at hl 1 rfl) ?_
  refine va_get (D := D) (ci := 2) (v := .ref (adr (k + 1))) (C := RX2) (T := TX2) (N := 5) hx hb hG inG_X2 hown hK hP k (wl_at (by omega) hE0) rfl 0 (by decide) (hG _ g_32) (fun _ h9 => h9) rfl dX2_add_7 ?_
  refine lv_iload hx hb dX2_add_10 (lv_at hl 0 rfl) ?_
  refine lv_iload_n hx hb dX2_add_12 rfl (lv_at hl 2 rfl) ?_
  refine wn_iast (j := ct) hx hb hK hAd hP hS (by omega) hE1 (by omega) (by decide) dX2_add_13 (fun H locs hP hS => ?_)
  rw [upd_nI] at hP
  obtain ⟨E1x, hE1x⟩ : ∃ z, z = va_up E (k + 1) (.inl (cA 0, 120, .inl (fun j => nI (upN nm ct a j)))) := ⟨_, rfl⟩
  have hP : va_P D kcl (wl adr n E1x) H := by rw [hE1x]; exact hP
  have hE0 := (show E1x k = E k from by rw [hE1x, va_up_ne _ _ (by omega)]).trans hE0
  have hE1 : E1x (k + 1) = .inl (cA 0, 120, .inl (fun j => nI (upN nm ct a j))) := by rw [hE1x, va_up_self]
  have hE2 := (show E1x (k + 2) = E (k + 2) from by rw [hE1x, va_up_ne _ _ (by omega)]).trans hE2
  have hE3 := (show E1x (k + 3) = E (k + 3) from by rw [hE1x, va_up_ne _ _ (by omega)]).trans hE3
  have hE4 := (show E1x (k + 4) = E (k + 4) from by rw [hE1x, va_up_ne _ _ (by omega)]).trans hE4
  have hF : ∀ j, j ≠ k → j ≠ k + 1 → j ≠ k + 2 → j ≠ k + 3 → E1x j = E j := fun j z0 z1 z2 z3 => (show E1x j = E j from by rw [hE1x, va_up_ne _ _ z1]).trans (hF j z0 z1 z2 z3)
  refine lv_aload_n hx hb dX2_add_14 rfl (lv_at hl 1 rfl) ?_
  refine va_get (D := D) (ci := 2) (v := .ref (adr (k + 2))) (C := RX2) (T := TX2) (N := 5) hx hb hG inG_X2 hown hK hP k (wl_at (by omega) hE0) rfl 1 (by decide) (hG _ g_34) (fun _ h9 => h9) rfl dX2_add_15 ?_
  refine lv_iload hx hb dX2_add_18 (lv_at hl 0 rfl) ?_
  refine lv_iload_n hx hb dX2_add_20 rfl (lv_at hl 3 rfl) ?_
  refine wn_iast (j := ct) hx hb hK hAd hP hS (by omega) hE2 (by omega) (by decide) dX2_add_21 (fun H locs hP hS => ?_)
  rw [upd_nI] at hP
  obtain ⟨E2x, hE2x⟩ : ∃ z, z = va_up E1x (k + 2) (.inl (cA 0, 120, .inl (fun j => nI (upN td ct b j)))) := ⟨_, rfl⟩
  have hP : va_P D kcl (wl adr n E2x) H := by rw [hE2x]; exact hP
  have hE0 := (show E2x k = E1x k from by rw [hE2x, va_up_ne _ _ (by omega)]).trans hE0
  have hE1 := (show E2x (k + 1) = E1x (k + 1) from by rw [hE2x, va_up_ne _ _ (by omega)]).trans hE1
  have hE2 : E2x (k + 2) = .inl (cA 0, 120, .inl (fun j => nI (upN td ct b j))) := by rw [hE2x, va_up_self]
  have hE3 := (show E2x (k + 3) = E1x (k + 3) from by rw [hE2x, va_up_ne _ _ (by omega)]).trans hE3
  have hE4 := (show E2x (k + 4) = E1x (k + 4) from by rw [hE2x, va_up_ne _ _ (by omega)]).trans hE4
  have hF : ∀ j, j ≠ k → j ≠ k + 1 → j ≠ k + 2 → j ≠ k + 3 → E2x j = E j := fun j z0 z1 z2 z3 => (show E2x j = E1x j from by rw [hE2x, va_up_ne _ _ z2]).trans (hF j z0 z1 z2 z3)
  refine lv_aload_n hx hb dX2_add_22 rfl (lv_at hl 1 rfl) ?_
  refine va_get (D := D) (ci := 2) (v := .ref (adr (k + 3))) (C := RX2) (T := TX2) (N := 5) hx hb hG inG_X2 hown hK hP k (wl_at (by omega) hE0) rfl 2 (by decide) (hG _ g_36) (fun _ h9 => h9) rfl dX2_add_23 ?_
  refine lv_iload hx hb dX2_add_26 (lv_at hl 0 rfl) ?_
  refine lv_iload_n hx hb dX2_add_28 rfl (lv_at hl 4 rfl) ?_
  refine wn_iast (j := ct) hx hb hK hAd hP hS (by omega) hE3 (by omega) (by decide) dX2_add_29 (fun H locs hP hS => ?_)
  obtain ⟨E3x, hE3x⟩ : ∃ z, z = va_up E2x (k + 3) (.inl (cA 0, 120, .inl (upd vl ct v))) := ⟨_, rfl⟩
  have hP : va_P D kcl (wl adr n E3x) H := by rw [hE3x]; exact hP
  have hE0 := (show E3x k = E2x k from by rw [hE3x, va_up_ne _ _ (by omega)]).trans hE0
  have hE1 := (show E3x (k + 1) = E2x (k + 1) from by rw [hE3x, va_up_ne _ _ (by omega)]).trans hE1
  have hE2 := (show E3x (k + 2) = E2x (k + 2) from by rw [hE3x, va_up_ne _ _ (by omega)]).trans hE2
  have hE3 : E3x (k + 3) = .inl (cA 0, 120, .inl (upd vl ct v)) := by rw [hE3x, va_up_self]
  have hE4 := (show E3x (k + 4) = E2x (k + 4) from by rw [hE3x, va_up_ne _ _ (by omega)]).trans hE4
  have hF : ∀ j, j ≠ k → j ≠ k + 1 → j ≠ k + 2 → j ≠ k + 3 → E3x j = E j := fun j z0 z1 z2 z3 => (show E3x j = E2x j from by rw [hE3x, va_up_ne _ _ z3]).trans (hF j z0 z1 z2 z3)
  refine lv_aload_n hx hb dX2_add_30 rfl (lv_at hl 1 rfl) ?_
  refine lv_dup hx hb dX2_add_31 rfl ?_
  refine va_get (D := D) (ci := 2) (v := .int (nI ct)) (C := RX2) (T := TX2) (N := 5) hx hb hG inG_X2 hown hK hP k (wl_at (by omega) hE0) rfl 4 (by decide) (hG _ g_40) (fun _ h9 => h9) rfl dX2_add_32 ?_
  refine lv_iconst (v := 1) hx hb dX2_add_35 (by decide) ?_
  refine lv_iadd hx hb dX2_add_36 ?_
  refine lv_topi (fun y9 e9 => ?_)
  have e9 : y9 = nI (ct + 1) := e9.trans (nI_1 ct)
  subst e9
  refine wd_put (ci := 2) (C := RX2) (T := TX2) (N := 5) (v := .int (nI (ct + 1))) (ty := .int) hx hb hG inG_X2 tyX2 tyX2_ok nmX2 hown hK hAd hP hS (k0 := k) (by omega) hE0 rfl 4 (by decide) (hG _ g_40) (fun _ h9 => h9) rfl (by decide +kernel) rfl rfl (Nat.le_of_ble_eq_true rfl) dX2_add_37 (fun H locs hP hS => ?_)
  obtain ⟨E4x, hE4x⟩ : ∃ z, z = va_up E3x k (.inr (2, [.ref (adr (k + 1)), .ref (adr (k + 2)), .ref (adr (k + 3)), .ref (adr (k + 4)), .int (nI (ct + 1))])) := ⟨_, rfl⟩
  have hP : va_P D kcl (wl adr n E4x) H := by rw [hE4x]; exact hP
  have hE0 : E4x k = .inr (2, [.ref (adr (k + 1)), .ref (adr (k + 2)), .ref (adr (k + 3)), .ref (adr (k + 4)), .int (nI (ct + 1))]) := by rw [hE4x, va_up_self]
  have hE1 := (show E4x (k + 1) = E3x (k + 1) from by rw [hE4x, va_up_ne _ _ (by omega)]).trans hE1
  have hE2 := (show E4x (k + 2) = E3x (k + 2) from by rw [hE4x, va_up_ne _ _ (by omega)]).trans hE2
  have hE3 := (show E4x (k + 3) = E3x (k + 3) from by rw [hE4x, va_up_ne _ _ (by omega)]).trans hE3
  have hE4 := (show E4x (k + 4) = E3x (k + 4) from by rw [hE4x, va_up_ne _ _ (by omega)]).trans hE4
  have hF : ∀ j, j ≠ k → j ≠ k + 1 → j ≠ k + 2 → j ≠ k + 3 → E4x j = E j := fun j z0 z1 z2 z3 => (show E4x j = E3x j from by rw [hE4x, va_up_ne _ _ z0]).trans (hF j z0 z1 z2 z3)
  refine lv_iload hx hb dX2_add_40 (lv_at hl 0 rfl) ?_
  exact W.iret (v := nI ct) hx hb hr (fun t ht _ => ⟨rfl, E4x, ⟨hE0, hE1, hE2, hE3, hF⟩, by rw [ht]; exact hP, hS.F ht⟩) hS.2.2 dX2_add_42

set_option maxHeartbeats 4000000 in
set_option maxRecDepth 100000 in
theorem cX0_take_w {l : Launch} {D : va_G} {cA : Nat → ClassId} {adr : Nat → Nat} {n : Nat} {E : Nat → va_E} {lo : Nat} (hAd : wd_ad lo n adr) {k : Nat} {mo : Nat → Int32} {mt sn wt : Int32} {ib : Bool} (hk : k + 1 < n) (hE0 : E k = .inr (0, [.ref (adr (k + 1)), .int mt, .int sn, .int wt, .int (bI ib)])) (hE1 : E (k + 1) = .inl (cA 0, 120, .inl mo)) {j : Nat} (hj : j < 120) : Met l yX0_take (.code yX0_take cX0_take 2 none :: lw_G) ({ frames := 0, cells := 0, slots := 0, locals := 0 } : Room) (va_Pc [.ref (adr k), .int (nI j)] (wdU D (kty cA) adr n E)) (wq D lo adr n (none) (fun E2 => E2 k = .inr (0, [.ref (adr (k + 1)), .int (if ib then mt else mt + 1), .int (if ib then sn else sn + 1), .int (if ib then wt + 1 else wt), .int (bI ib)]) ∧ E2 (k + 1) = .inl (cA 0, 120, .inl (upd mo j (if ib then -1 else mt + 1))) ∧ ∀ j, j ≠ k → j ≠ k + 1 → E2 j = E j)) 0 0 (fun q => lo ≤ q) := by
  refine Met.ofW (cc := cX0_take) (maxL := 2) (ret := none) (by decide) rfl ?_
  intro p e s m args below meth c s₁ B hml hv
  obtain ⟨rfl, hP, hN⟩ := hv
  have hx := B.exec
  have hb := B.bytes
  have hr := B.returns
  have hG : ∀ w ∈ lw_G, w.before _ s = true := fun w h => atoms_spec (ws := _ :: lw_G) B.pre w (List.mem_cons_of_mem _ h)
  have hown : s.vm.findClass RX0 = some m.cls := findClass_of_methodNamed B.named
  have hlocks := B.notSynchronized
  have hK := hN.1
  have hS : va_S (fun q => lo ≤ q) s.heap s.heap [] := va_S.rf
  have hF : ∀ j, j ≠ k → j ≠ k + 1 → E j = E j := fun j _ _ => rfl
  have hl := lv_entry ([.ref (adr k), .int (nI j)]) (n := 2) (Nat.le_of_ble_eq_true rfl)
  rw [lg_entry_eq]
  generalize (lg_sl ([.ref (adr k), .int (nI j)]) ++ List.replicate (2 - (lg_sl ([.ref (adr k), .int (nI j)])).length) Slot.unset).toArray = ls at hl ⊢
  have hl : lv_has ls 2 [(0, .ref (adr k)), (1, .int (nI j))] := hl
  refine lv_aload_n hx hb dX0_take_0 rfl (lv_at hl 0 rfl) ?_
  refine va_get (D := D) (ci := 0) (v := .int (bI ib)) (C := RX0) (T := TX0) (N := 5) hx hb hG inG_X0 hown hK hP k (wl_at (by omega) hE0) rfl 4 (by decide) (hG _ g_86) (fun _ h9 => h9) rfl dX0_take_1 ?_
  refine lv_if_eq (tgt := 27) hx hb dX0_take_4 (by decide) (fun c4 => ?_) (fun c4 => ?_)
  · have n4 : ib = false := bI_0.mp c4
    refine lv_aload_n hx hb dX0_take_27 rfl (lv_at hl 0 rfl) ?_
    refine lv_dup hx hb dX0_take_28 rfl ?_
    refine va_get (D := D) (ci := 0) (v := .int mt) (C := RX0) (T := TX0) (N := 5) hx hb hG inG_X0 hown hK hP k (wl_at (by omega) hE0) rfl 1 (by decide) (hG _ g_80) (fun _ h9 => h9) rfl dX0_take_29 ?_
    refine lv_iconst (v := 1) hx hb dX0_take_32 (by decide) ?_
    refine lv_iadd hx hb dX0_take_33 ?_
    refine wd_put (ci := 0) (C := RX0) (T := TX0) (N := 5) (v := .int (mt + 1)) (ty := .int) hx hb hG inG_X0 tyX0 tyX0_ok nmX0 hown hK hAd hP hS (k0 := k) (by omega) hE0 rfl 1 (by decide) (hG _ g_80) (fun _ h9 => h9) rfl (by decide +kernel) rfl rfl (Nat.le_of_ble_eq_true rfl) dX0_take_34 (fun H locs hP hS => ?_)
    obtain ⟨E1x, hE1x⟩ : ∃ z, z = va_up E k (.inr (0, [.ref (adr (k + 1)), .int (mt + 1), .int sn, .int wt, .int (bI ib)])) := ⟨_, rfl⟩
    have hP : va_P D kcl (wl adr n E1x) H := by rw [hE1x]; exact hP
    have hE0 : E1x k = .inr (0, [.ref (adr (k + 1)), .int (mt + 1), .int sn, .int wt, .int (bI ib)]) := by rw [hE1x, va_up_self]
    have hE1 := (show E1x (k + 1) = E (k + 1) from by rw [hE1x, va_up_ne _ _ (by omega)]).trans hE1
    have hF : ∀ j, j ≠ k → j ≠ k + 1 → E1x j = E j := fun j z0 z1 => (show E1x j = E j from by rw [hE1x, va_up_ne _ _ z0]).trans (hF j z0 z1)
    refine lv_aload_n hx hb dX0_take_37 rfl (lv_at hl 0 rfl) ?_
    refine va_get (D := D) (ci := 0) (v := .ref (adr (k + 1))) (C := RX0) (T := TX0) (N := 5) hx hb hG inG_X0 hown hK hP k (wl_at (by omega) hE0) rfl 0 (by decide) (hG _ g_79) (fun _ h9 => h9) rfl dX0_take_38 ?_
    refine lv_iload_n hx hb dX0_take_41 rfl (lv_at hl 1 rfl) ?_
    refine lv_aload_n hx hb dX0_take_42 rfl (lv_at hl 0 rfl) ?_
    refine va_get (D := D) (ci := 0) (v := .int (mt + 1)) (C := RX0) (T := TX0) (N := 5) hx hb hG inG_X0 hown hK hP k (wl_at (by omega) hE0) rfl 1 (by decide) (hG _ g_80) (fun _ h9 => h9) rfl dX0_take_43 ?_
    refine wn_iast (j := j) hx hb hK hAd hP hS (by omega) hE1 (by omega) (by decide) dX0_take_46 (fun H locs hP hS => ?_)
    obtain ⟨E2x, hE2x⟩ : ∃ z, z = va_up E1x (k + 1) (.inl (cA 0, 120, .inl (upd mo j (mt + 1)))) := ⟨_, rfl⟩
    have hP : va_P D kcl (wl adr n E2x) H := by rw [hE2x]; exact hP
    have hE0 := (show E2x k = E1x k from by rw [hE2x, va_up_ne _ _ (by omega)]).trans hE0
    have hE1 : E2x (k + 1) = .inl (cA 0, 120, .inl (upd mo j (mt + 1))) := by rw [hE2x, va_up_self]
    have hF : ∀ j, j ≠ k → j ≠ k + 1 → E2x j = E j := fun j z0 z1 => (show E2x j = E1x j from by rw [hE2x, va_up_ne _ _ z1]).trans (hF j z0 z1)
    refine lv_aload_n hx hb dX0_take_47 rfl (lv_at hl 0 rfl) ?_
    refine lv_dup hx hb dX0_take_48 rfl ?_
    refine va_get (D := D) (ci := 0) (v := .int sn) (C := RX0) (T := TX0) (N := 5) hx hb hG inG_X0 hown hK hP k (wl_at (by omega) hE0) rfl 2 (by decide) (hG _ g_82) (fun _ h9 => h9) rfl dX0_take_49 ?_
    refine lv_iconst (v := 1) hx hb dX0_take_52 (by decide) ?_
    refine lv_iadd hx hb dX0_take_53 ?_
    refine wd_put (ci := 0) (C := RX0) (T := TX0) (N := 5) (v := .int (sn + 1)) (ty := .int) hx hb hG inG_X0 tyX0 tyX0_ok nmX0 hown hK hAd hP hS (k0 := k) (by omega) hE0 rfl 2 (by decide) (hG _ g_82) (fun _ h9 => h9) rfl (by decide +kernel) rfl rfl (Nat.le_of_ble_eq_true rfl) dX0_take_54 (fun H locs hP hS => ?_)
    obtain ⟨E3x, hE3x⟩ : ∃ z, z = va_up E2x k (.inr (0, [.ref (adr (k + 1)), .int (mt + 1), .int (sn + 1), .int wt, .int (bI ib)])) := ⟨_, rfl⟩
    have hP : va_P D kcl (wl adr n E3x) H := by rw [hE3x]; exact hP
    have hE0 : E3x k = .inr (0, [.ref (adr (k + 1)), .int (mt + 1), .int (sn + 1), .int wt, .int (bI ib)]) := by rw [hE3x, va_up_self]
    have hE1 := (show E3x (k + 1) = E2x (k + 1) from by rw [hE3x, va_up_ne _ _ (by omega)]).trans hE1
    have hF : ∀ j, j ≠ k → j ≠ k + 1 → E3x j = E j := fun j z0 z1 => (show E3x j = E2x j from by rw [hE3x, va_up_ne _ _ z0]).trans (hF j z0 z1)
    exact W.vret hx hb hr (fun t ht _ => ⟨rfl, E3x, ⟨by rw [n4] at hE0 ⊢; exact hE0, by rw [n4]; exact hE1, hF⟩, by rw [ht]; exact hP, hS.F ht⟩) hS.2.2 dX0_take_57
  · have n4 : ib = true := bI_1.mp c4
    refine lv_aload_n hx hb dX0_take_7 rfl (lv_at hl 0 rfl) ?_
    refine va_get (D := D) (ci := 0) (v := .ref (adr (k + 1))) (C := RX0) (T := TX0) (N := 5) hx hb hG inG_X0 hown hK hP k (wl_at (by omega) hE0) rfl 0 (by decide) (hG _ g_79) (fun _ h9 => h9) rfl dX0_take_8 ?_
    refine lv_iload_n hx hb dX0_take_11 rfl (lv_at hl 1 rfl) ?_
    refine lv_iconst (v := (-1)) hx hb dX0_take_12 (by decide) ?_
    refine wn_iast (j := j) hx hb hK hAd hP hS (by omega) hE1 (by omega) (by decide) dX0_take_13 (fun H locs hP hS => ?_)
    obtain ⟨E4x, hE4x⟩ : ∃ z, z = va_up E (k + 1) (.inl (cA 0, 120, .inl (upd mo j (-1)))) := ⟨_, rfl⟩
    have hP : va_P D kcl (wl adr n E4x) H := by rw [hE4x]; exact hP
    have hE0 := (show E4x k = E k from by rw [hE4x, va_up_ne _ _ (by omega)]).trans hE0
    have hE1 : E4x (k + 1) = .inl (cA 0, 120, .inl (upd mo j (-1))) := by rw [hE4x, va_up_self]
    have hF : ∀ j, j ≠ k → j ≠ k + 1 → E4x j = E j := fun j z0 z1 => (show E4x j = E j from by rw [hE4x, va_up_ne _ _ z1]).trans (hF j z0 z1)
    refine lv_aload_n hx hb dX0_take_14 rfl (lv_at hl 0 rfl) ?_
    refine lv_dup hx hb dX0_take_15 rfl ?_
    refine va_get (D := D) (ci := 0) (v := .int wt) (C := RX0) (T := TX0) (N := 5) hx hb hG inG_X0 hown hK hP k (wl_at (by omega) hE0) rfl 3 (by decide) (hG _ g_84) (fun _ h9 => h9) rfl dX0_take_16 ?_
    refine lv_iconst (v := 1) hx hb dX0_take_19 (by decide) ?_
    refine lv_iadd hx hb dX0_take_20 ?_
    refine wd_put (ci := 0) (C := RX0) (T := TX0) (N := 5) (v := .int (wt + 1)) (ty := .int) hx hb hG inG_X0 tyX0 tyX0_ok nmX0 hown hK hAd hP hS (k0 := k) (by omega) hE0 rfl 3 (by decide) (hG _ g_84) (fun _ h9 => h9) rfl (by decide +kernel) rfl rfl (Nat.le_of_ble_eq_true rfl) dX0_take_21 (fun H locs hP hS => ?_)
    obtain ⟨E5x, hE5x⟩ : ∃ z, z = va_up E4x k (.inr (0, [.ref (adr (k + 1)), .int mt, .int sn, .int (wt + 1), .int (bI ib)])) := ⟨_, rfl⟩
    have hP : va_P D kcl (wl adr n E5x) H := by rw [hE5x]; exact hP
    have hE0 : E5x k = .inr (0, [.ref (adr (k + 1)), .int mt, .int sn, .int (wt + 1), .int (bI ib)]) := by rw [hE5x, va_up_self]
    have hE1 := (show E5x (k + 1) = E4x (k + 1) from by rw [hE5x, va_up_ne _ _ (by omega)]).trans hE1
    have hF : ∀ j, j ≠ k → j ≠ k + 1 → E5x j = E j := fun j z0 z1 => (show E5x j = E4x j from by rw [hE5x, va_up_ne _ _ z0]).trans (hF j z0 z1)
    refine lv_goto (tgt := 57) hx hb dX0_take_24 (by decide) ?_
    exact W.vret hx hb hr (fun t ht _ => ⟨rfl, E5x, ⟨by rw [n4] at hE0 ⊢; exact hE0, by rw [n4]; exact hE1, hF⟩, by rw [ht]; exact hP, hS.F ht⟩) hS.2.2 dX0_take_57

theorem eb_hit {mo : Nat → Int32} {x : Int32} {i : Nat} (j : Nat) (h : mo i = -1) : upd (fun j => if j < i ∧ mo j = -1 then x else mo j) i x j = if j < i + 1 ∧ mo j = -1 then x else mo j := by
  unfold upd
  by_cases hj : j = i
  · subst hj; simp [h]
  · by_cases h2 : j < i
    · simp [hj, h2, show j < i + 1 from by omega]
    · simp [hj, h2, show ¬ j < i + 1 from by omega]
theorem eb_mis {mo : Nat → Int32} {x : Int32} {i : Nat} (j : Nat) (h : ¬ mo i = -1) : (if j < i ∧ mo j = -1 then x else mo j) = if j < i + 1 ∧ mo j = -1 then x else mo j := by
  by_cases hj : j = i
  · subst hj; simp [h]
  · by_cases h2 : j < i
    · simp [h2, show j < i + 1 from by omega]
    · simp [h2, show ¬ j < i + 1 from by omega]
theorem bI_fit (b : Bool) : fits .boolean (.int (bI b)) = true := by cases b <;> rfl

set_option maxHeartbeats 4000000 in
set_option maxRecDepth 100000 in
theorem cX0_endBatch_w {l : Launch} {D : va_G} {cA : Nat → ClassId} {adr : Nat → Nat} {n : Nat} {E : Nat → va_E} {lo : Nat} (hAd : wd_ad lo n adr) {k : Nat} {mo : Nat → Int32} {mt sn wt : Int32} {ib : Bool} (hk : k + 1 < n) (hE0 : E k = .inr (0, [.ref (adr (k + 1)), .int mt, .int sn, .int wt, .int (bI ib)])) (hE1 : E (k + 1) = .inl (cA 0, 120, .inl mo)) : Met l yX0_endBatch (.code yX0_endBatch cX0_endBatch 2 none :: lw_G) ({ frames := 0, cells := 0, slots := 0, locals := 0 } : Room) (va_Pc [.ref (adr k)] (wdU D (kty cA) adr n E)) (wq D lo adr n (none) (fun E2 => E2 k = .inr (0, [.ref (adr (k + 1)), .int (if wt = 0 then mt else mt + 1), .int (if wt = 0 then sn else sn + wt), .int 0, .int (bI false)]) ∧ E2 (k + 1) = .inl (cA 0, 120, .inl (if wt = 0 then mo else fun j => if j < 120 ∧ mo j = -1 then mt + 1 else mo j)) ∧ ∀ j, j ≠ k → j ≠ k + 1 → E2 j = E j)) 0 0 (fun q => lo ≤ q) := by
  refine Met.ofW (cc := cX0_endBatch) (maxL := 2) (ret := none) (by decide) rfl ?_
  intro p e s m args below meth c s₁ B hml hv
  obtain ⟨rfl, hP, hN⟩ := hv
  have hx := B.exec
  have hb := B.bytes
  have hr := B.returns
  have hG : ∀ w ∈ lw_G, w.before _ s = true := fun w h => atoms_spec (ws := _ :: lw_G) B.pre w (List.mem_cons_of_mem _ h)
  have hown : s.vm.findClass RX0 = some m.cls := findClass_of_methodNamed B.named
  have hlocks := B.notSynchronized
  have hK := hN.1
  have hS : va_S (fun q => lo ≤ q) s.heap s.heap [] := va_S.rf
  have hF : ∀ j, j ≠ k → j ≠ k + 1 → E j = E j := fun j _ _ => rfl
  have hl := lv_entry ([.ref (adr k)]) (n := 2) (Nat.le_of_ble_eq_true rfl)
  rw [lg_entry_eq]
  generalize (lg_sl ([.ref (adr k)]) ++ List.replicate (2 - (lg_sl ([.ref (adr k)])).length) Slot.unset).toArray = ls at hl ⊢
  have hl : lv_has ls 2 [(0, .ref (adr k))] := hl
  refine lv_aload_n hx hb dX0_endBatch_0 rfl (lv_at hl 0 rfl) ?_
  refine lv_iconst (v := 0) hx hb dX0_endBatch_1 (by decide) ?_
  refine lv_topi (fun y9 e9 => ?_)
  have e9 : y9 = bI false := e9.trans (bI_f.symm)
  subst e9
  refine wd_put (ci := 0) (C := RX0) (T := TX0) (N := 5) (v := .int (bI false)) (ty := .boolean) hx hb hG inG_X0 tyX0 tyX0_ok nmX0 hown hK hAd hP hS (k0 := k) (by omega) hE0 rfl 4 (by decide) (hG _ g_86) (fun _ h9 => h9) rfl (by decide +kernel) (bI_nar _) (bI_fit _) (Nat.le_of_ble_eq_true rfl) dX0_endBatch_2 (fun H locs hP hS => ?_)
  obtain ⟨E1x, hE1x⟩ : ∃ z, z = va_up E k (.inr (0, [.ref (adr (k + 1)), .int mt, .int sn, .int wt, .int (bI false)])) := ⟨_, rfl⟩
  have hP : va_P D kcl (wl adr n E1x) H := by rw [hE1x]; exact hP
  have hE0 : E1x k = .inr (0, [.ref (adr (k + 1)), .int mt, .int sn, .int wt, .int (bI false)]) := by rw [hE1x, va_up_self]
  have hE1 := (show E1x (k + 1) = E (k + 1) from by rw [hE1x, va_up_ne _ _ (by omega)]).trans hE1
  have hF : ∀ j, j ≠ k → j ≠ k + 1 → E1x j = E j := fun j z0 z1 => (show E1x j = E j from by rw [hE1x, va_up_ne _ _ z0]).trans (hF j z0 z1)
  refine lv_aload_n hx hb dX0_endBatch_5 rfl (lv_at hl 0 rfl) ?_
  refine va_get (D := D) (ci := 0) (v := .int wt) (C := RX0) (T := TX0) (N := 5) hx hb hG inG_X0 hown hK hP k (wl_at (by omega) hE0) rfl 3 (by decide) (hG _ g_84) (fun _ h9 => h9) rfl dX0_endBatch_6 ?_
  refine lv_if_ne (tgt := 13) hx hb dX0_endBatch_9 (by decide) (fun c9 => ?_) (fun c9 => ?_)
  · refine lv_aload_n hx hb dX0_endBatch_13 rfl (lv_at hl 0 rfl) ?_
    refine lv_dup hx hb dX0_endBatch_14 rfl ?_
    refine va_get (D := D) (ci := 0) (v := .int mt) (C := RX0) (T := TX0) (N := 5) hx hb hG inG_X0 hown hK hP k (wl_at (by omega) hE0) rfl 1 (by decide) (hG _ g_80) (fun _ h9 => h9) rfl dX0_endBatch_15 ?_
    refine lv_iconst (v := 1) hx hb dX0_endBatch_18 (by decide) ?_
    refine lv_iadd hx hb dX0_endBatch_19 ?_
    refine wd_put (ci := 0) (C := RX0) (T := TX0) (N := 5) (v := .int (mt + 1)) (ty := .int) hx hb hG inG_X0 tyX0 tyX0_ok nmX0 hown hK hAd hP hS (k0 := k) (by omega) hE0 rfl 1 (by decide) (hG _ g_80) (fun _ h9 => h9) rfl (by decide +kernel) rfl rfl (Nat.le_of_ble_eq_true rfl) dX0_endBatch_20 (fun H locs hP hS => ?_)
    obtain ⟨E2x, hE2x⟩ : ∃ z, z = va_up E1x k (.inr (0, [.ref (adr (k + 1)), .int (mt + 1), .int sn, .int wt, .int (bI false)])) := ⟨_, rfl⟩
    have hP : va_P D kcl (wl adr n E2x) H := by rw [hE2x]; exact hP
    have hE0 : E2x k = .inr (0, [.ref (adr (k + 1)), .int (mt + 1), .int sn, .int wt, .int (bI false)]) := by rw [hE2x, va_up_self]
    have hE1 := (show E2x (k + 1) = E1x (k + 1) from by rw [hE2x, va_up_ne _ _ (by omega)]).trans hE1
    have hF : ∀ j, j ≠ k → j ≠ k + 1 → E2x j = E j := fun j z0 z1 => (show E2x j = E1x j from by rw [hE2x, va_up_ne _ _ z0]).trans (hF j z0 z1)
    refine lv_iconst (v := 0) hx hb dX0_endBatch_23 (by decide) ?_
    refine lv_istore_n (lv' := [(1, .int 0), (0, .ref (adr k))]) hx hb dX0_endBatch_24 rfl hl (by decide) rfl (fun ls hl => ?_)
    have L25 : ∀ (f : Nat) (i : Nat) (E1 : Nat → va_E) (H : Heap) (locs : List Loc), 120 - i < f → i ≤ 120 → E1 k = .inr (0, [.ref (adr (k + 1)), .int (mt + 1), .int sn, .int wt, .int (bI false)]) → E1 (k + 1) = .inl (cA 0, 120, .inl (fun j => if j < i ∧ mo j = -1 then mt + 1 else mo j)) → (∀ j, j ≠ k → j ≠ k + 1 → E1 j = E j) → va_P D kcl (wl adr n E1) H → va_S (fun q => lo ≤ q) s.heap H locs → ∀ ls : Array Slot, lv_has ls 2 [(1, .int (nI i)), (0, .ref (adr k))] → W p l e (headSpec (.code yX0_endBatch cX0_endBatch 2 none :: lw_G) ({ frames := 0, cells := 0, slots := 0, locals := 0 } : Room)).room s m [.ref (adr k)].toArray below meth c H locs 0 0 (MQ below (wq D lo adr n (none) (fun E2 => E2 k = .inr (0, [.ref (adr (k + 1)), .int (if wt = 0 then mt else mt + 1), .int (if wt = 0 then sn else sn + wt), .int 0, .int (bI false)]) ∧ E2 (k + 1) = .inl (cA 0, 120, .inl (if wt = 0 then mo else fun j => if j < 120 ∧ mo j = -1 then mt + 1 else mo j)) ∧ ∀ j, j ≠ k → j ≠ k + 1 → E2 j = E j)) [.ref (adr k)].toArray s 0 0 (fun q => lo ≤ q)) (F0 m 25 ls []) := by
      intro f
      induction f with
      | zero => intro i E1 H locs h0; exact absurd h0 (by omega)
      | succ f ih =>
        intro i E1 H locs hf hi hE0 hE1 hF hP hS ls hl
        refine lv_iload_n hx hb dX0_endBatch_25 rfl (lv_at hl 0 rfl) ?_
        refine lv_bipush (v := 120) hx hb dX0_endBatch_26 (by decide) ?_
        refine lv_icmp_ge (tgt := 57) hx hb dX0_endBatch_28 (by decide) (fun c28 => ?_) (fun c28 => ?_)
        · have n28 : 120 ≤ i := (nI_leI (a := 120) (b := i) (by omega) (by omega)).mp c28
          refine lv_aload_n hx hb dX0_endBatch_57 rfl (lv_at hl 1 rfl) ?_
          refine lv_dup hx hb dX0_endBatch_58 rfl ?_
          refine va_get (D := D) (ci := 0) (v := .int sn) (C := RX0) (T := TX0) (N := 5) hx hb hG inG_X0 hown hK hP k (wl_at (by omega) hE0) rfl 2 (by decide) (hG _ g_82) (fun _ h9 => h9) rfl dX0_endBatch_59 ?_
          refine lv_aload_n hx hb dX0_endBatch_62 rfl (lv_at hl 1 rfl) ?_
          refine va_get (D := D) (ci := 0) (v := .int wt) (C := RX0) (T := TX0) (N := 5) hx hb hG inG_X0 hown hK hP k (wl_at (by omega) hE0) rfl 3 (by decide) (hG _ g_84) (fun _ h9 => h9) rfl dX0_endBatch_63 ?_
          refine lv_iadd hx hb dX0_endBatch_66 ?_
          refine wd_put (ci := 0) (C := RX0) (T := TX0) (N := 5) (v := .int (sn + wt)) (ty := .int) hx hb hG inG_X0 tyX0 tyX0_ok nmX0 hown hK hAd hP hS (k0 := k) (by omega) hE0 rfl 2 (by decide) (hG _ g_82) (fun _ h9 => h9) rfl (by decide +kernel) rfl rfl (Nat.le_of_ble_eq_true rfl) dX0_endBatch_67 (fun H locs hP hS => ?_)
          obtain ⟨E3x, hE3x⟩ : ∃ z, z = va_up E1 k (.inr (0, [.ref (adr (k + 1)), .int (mt + 1), .int (sn + wt), .int wt, .int (bI false)])) := ⟨_, rfl⟩
          have hP : va_P D kcl (wl adr n E3x) H := by rw [hE3x]; exact hP
          have hE0 : E3x k = .inr (0, [.ref (adr (k + 1)), .int (mt + 1), .int (sn + wt), .int wt, .int (bI false)]) := by rw [hE3x, va_up_self]
          have hE1 := (show E3x (k + 1) = E1 (k + 1) from by rw [hE3x, va_up_ne _ _ (by omega)]).trans hE1
          have hF : ∀ j, j ≠ k → j ≠ k + 1 → E3x j = E j := fun j z0 z1 => (show E3x j = E1 j from by rw [hE3x, va_up_ne _ _ z0]).trans (hF j z0 z1)
          refine lv_aload_n hx hb dX0_endBatch_70 rfl (lv_at hl 1 rfl) ?_
          refine lv_iconst (v := 0) hx hb dX0_endBatch_71 (by decide) ?_
          refine wd_put (ci := 0) (C := RX0) (T := TX0) (N := 5) (v := .int 0) (ty := .int) hx hb hG inG_X0 tyX0 tyX0_ok nmX0 hown hK hAd hP hS (k0 := k) (by omega) hE0 rfl 3 (by decide) (hG _ g_84) (fun _ h9 => h9) rfl (by decide +kernel) rfl rfl (Nat.le_of_ble_eq_true rfl) dX0_endBatch_72 (fun H locs hP hS => ?_)
          obtain ⟨E4x, hE4x⟩ : ∃ z, z = va_up E3x k (.inr (0, [.ref (adr (k + 1)), .int (mt + 1), .int (sn + wt), .int 0, .int (bI false)])) := ⟨_, rfl⟩
          have hP : va_P D kcl (wl adr n E4x) H := by rw [hE4x]; exact hP
          have hE0 : E4x k = .inr (0, [.ref (adr (k + 1)), .int (mt + 1), .int (sn + wt), .int 0, .int (bI false)]) := by rw [hE4x, va_up_self]
          have hE1 := (show E4x (k + 1) = E3x (k + 1) from by rw [hE4x, va_up_ne _ _ (by omega)]).trans hE1
          have hF : ∀ j, j ≠ k → j ≠ k + 1 → E4x j = E j := fun j z0 z1 => (show E4x j = E3x j from by rw [hE4x, va_up_ne _ _ z0]).trans (hF j z0 z1)
          exact W.vret hx hb hr (fun t ht _ => ⟨rfl, E4x, ⟨by rw [if_neg c9, if_neg c9]; exact hE0, by rw [if_neg c9]; rw [show i = 120 from by omega] at hE1; exact hE1, hF⟩, by rw [ht]; exact hP, hS.F ht⟩) hS.2.2 dX0_endBatch_75
        · have n28 : ¬ 120 ≤ i := fun h => c28 ((nI_leI (a := 120) (b := i) (by omega) (by omega)).mpr h)
          refine lv_aload_n hx hb dX0_endBatch_31 rfl (lv_at hl 1 rfl) ?_
          refine va_get (D := D) (ci := 0) (v := .ref (adr (k + 1))) (C := RX0) (T := TX0) (N := 5) hx hb hG inG_X0 hown hK hP k (wl_at (by omega) hE0) rfl 0 (by decide) (hG _ g_79) (fun _ h9 => h9) rfl dX0_endBatch_32 ?_
          refine lv_iload_n hx hb dX0_endBatch_35 rfl (lv_at hl 0 rfl) ?_
          refine wn_iald (j := i) hx hb hK hP (by omega) hE1 (by omega) (by decide) dX0_endBatch_36 ?_
          refine lv_iconst (v := (-1)) hx hb dX0_endBatch_37 (by decide) ?_
          refine lv_icmp_ne (tgt := 51) hx hb dX0_endBatch_38 (by decide) (fun c38 => ?_) (fun c38 => ?_)
          · have h38 : ¬ mo i = -1 := by simpa using c38
            refine lv_iinc (v := nI (i + 1)) (lv' := [(1, .int (nI (i + 1))), (0, .ref (adr k))]) hx hb dX0_endBatch_51 hl (k := 0) rfl (nI_1 _) (by decide) rfl (fun ls hl => ?_)
            refine lv_goto (tgt := 25) hx hb dX0_endBatch_54 (by decide) ?_
            exact ih (i + 1) E1 _ _ (by omega) (by omega) hE0 (hE1.trans (congrArg (fun z => Sum.inl (cA 0, 120, Sum.inl z)) (funext fun j => by exact eb_mis j h38))) hF hP hS ls (lv_sub hl [0, 1] rfl)
          · have h38 : mo i = -1 := by simpa using c38
            refine lv_aload_n hx hb dX0_endBatch_41 rfl (lv_at hl 1 rfl) ?_
            refine va_get (D := D) (ci := 0) (v := .ref (adr (k + 1))) (C := RX0) (T := TX0) (N := 5) hx hb hG inG_X0 hown hK hP k (wl_at (by omega) hE0) rfl 0 (by decide) (hG _ g_79) (fun _ h9 => h9) rfl dX0_endBatch_42 ?_
            refine lv_iload_n hx hb dX0_endBatch_45 rfl (lv_at hl 0 rfl) ?_
            refine lv_aload_n hx hb dX0_endBatch_46 rfl (lv_at hl 1 rfl) ?_
            refine va_get (D := D) (ci := 0) (v := .int (mt + 1)) (C := RX0) (T := TX0) (N := 5) hx hb hG inG_X0 hown hK hP k (wl_at (by omega) hE0) rfl 1 (by decide) (hG _ g_80) (fun _ h9 => h9) rfl dX0_endBatch_47 ?_
            refine wn_iast (j := i) hx hb hK hAd hP hS (by omega) hE1 (by omega) (by decide) dX0_endBatch_50 (fun H locs hP hS => ?_)
            obtain ⟨E5x, hE5x⟩ : ∃ z, z = va_up E1 (k + 1) (.inl (cA 0, 120, .inl (upd (fun j => if j < i ∧ mo j = -1 then mt + 1 else mo j) i (mt + 1)))) := ⟨_, rfl⟩
            have hP : va_P D kcl (wl adr n E5x) H := by rw [hE5x]; exact hP
            have hE0 := (show E5x k = E1 k from by rw [hE5x, va_up_ne _ _ (by omega)]).trans hE0
            have hE1 : E5x (k + 1) = .inl (cA 0, 120, .inl (upd (fun j => if j < i ∧ mo j = -1 then mt + 1 else mo j) i (mt + 1))) := by rw [hE5x, va_up_self]
            have hF : ∀ j, j ≠ k → j ≠ k + 1 → E5x j = E j := fun j z0 z1 => (show E5x j = E1 j from by rw [hE5x, va_up_ne _ _ z1]).trans (hF j z0 z1)
            refine lv_iinc (v := nI (i + 1)) (lv' := [(1, .int (nI (i + 1))), (0, .ref (adr k))]) hx hb dX0_endBatch_51 hl (k := 0) rfl (nI_1 _) (by decide) rfl (fun ls hl => ?_)
            refine lv_goto (tgt := 25) hx hb dX0_endBatch_54 (by decide) ?_
            exact ih (i + 1) E5x _ _ (by omega) (by omega) hE0 (hE1.trans (congrArg (fun z => Sum.inl (cA 0, 120, Sum.inl z)) (funext fun j => by exact eb_hit j h38))) hF hP hS ls (lv_sub hl [0, 1] rfl)
    exact L25 (120 + 1) 0 E2x _ _ (by omega) (by omega) hE0 (hE1.trans (congrArg (fun z => Sum.inl (cA 0, 120, Sum.inl z)) (funext fun j => by simp))) hF hP hS ls (lv_sub hl [0, 1] rfl)
  · exact W.vret hx hb hr (fun t ht _ => ⟨rfl, E1x, ⟨by rw [if_pos c9, if_pos c9]; rw [c9] at hE0; exact hE0, by rw [if_pos c9]; exact hE1, hF⟩, by rw [ht]; exact hP, hS.F ht⟩) hS.2.2 dX0_endBatch_12

theorem st_hit {nm : Nat → Nat} {sd : Nat → Bool} {r i : Nat} {b : Bool} (j : Nat) (h : nm r = nm i) (hb : b = decide (r = i)) : upZ (fun j => if j < r ∧ nm j = nm i then decide (j = i) else sd j) r b j = if j < r + 1 ∧ nm j = nm i then decide (j = i) else sd j := by
  unfold upZ
  by_cases hj : j = r
  · subst hj; simp [h, hb]
  · by_cases h2 : j < r
    · simp [hj, h2, show j < r + 1 from by omega]
    · simp [hj, h2, show ¬ j < r + 1 from by omega]
theorem st_mis {nm : Nat → Nat} {sd : Nat → Bool} {r i : Nat} (j : Nat) (h : ¬ nm r = nm i) : (if j < r ∧ nm j = nm i then decide (j = i) else sd j) = if j < r + 1 ∧ nm j = nm i then decide (j = i) else sd j := by
  by_cases hj : j = r
  · subst hj; simp [h]
  · by_cases h2 : j < r
    · simp [h2, show j < r + 1 from by omega]
    · simp [h2, show ¬ j < r + 1 from by omega]

set_option maxHeartbeats 4000000 in
set_option maxRecDepth 100000 in
theorem cX2_settleOn_w {l : Launch} {D : va_G} {cA : Nat → ClassId} {adr : Nat → Nat} {n : Nat} {E : Nat → va_E} {lo : Nat} (hAd : wd_ad lo n adr) {k ct : Nat} {nm td : Nat → Nat} {vl : Nat → Int32} {sd : Nat → Bool} (hk : k + 4 < n) (hct : ct ≤ 120) (hE0 : E k = .inr (2, [.ref (adr (k + 1)), .ref (adr (k + 2)), .ref (adr (k + 3)), .ref (adr (k + 4)), .int (nI ct)])) (hE1 : E (k + 1) = .inl (cA 0, 120, .inl (fun j => nI (nm j)))) (hE2 : E (k + 2) = .inl (cA 0, 120, .inl (fun j => nI (td j)))) (hE3 : E (k + 3) = .inl (cA 0, 120, .inl vl)) (hE4 : E (k + 4) = .inl (cA 1, 120, .inl (fun j => bI (sd j)))) (hnm : ∀ j, nm j < 2560) (htd : ∀ j, td j < 2 ^ 30) {i : Nat} (hi2 : i < 120) : Met l yX2_settleOn (.code yX2_settleOn cX2_settleOn 3 none :: lw_G) ({ frames := 0, cells := 0, slots := 0, locals := 0 } : Room) (va_Pc [.ref (adr k), .int (nI i)] (wdU D (kty cA) adr n E)) (wq D lo adr n (none) (fun E2 => E2 (k + 4) = .inl (cA 1, 120, .inl (fun j => bI ((fun j => if j < ct ∧ nm j = nm i then decide (j = i) else sd j) j))) ∧ ∀ j, j ≠ k + 4 → E2 j = E j)) 0 0 (fun q => lo ≤ q) := by
  refine Met.ofW (cc := cX2_settleOn) (maxL := 3) (ret := none) (by decide) rfl ?_
  intro p e s m args below meth c s₁ B hml hv
  obtain ⟨rfl, hP, hN⟩ := hv
  have hx := B.exec
  have hb := B.bytes
  have hr := B.returns
  have hG : ∀ w ∈ lw_G, w.before _ s = true := fun w h => atoms_spec (ws := _ :: lw_G) B.pre w (List.mem_cons_of_mem _ h)
  have hown : s.vm.findClass RX2 = some m.cls := findClass_of_methodNamed B.named
  have hlocks := B.notSynchronized
  have hK := hN.1
  have hS : va_S (fun q => lo ≤ q) s.heap s.heap [] := va_S.rf
  have hF : ∀ j, j ≠ k + 4 → E j = E j := fun j _ => rfl
  have hl := lv_entry ([.ref (adr k), .int (nI i)]) (n := 3) (Nat.le_of_ble_eq_true rfl)
  rw [lg_entry_eq]
  generalize (lg_sl ([.ref (adr k), .int (nI i)]) ++ List.replicate (3 - (lg_sl ([.ref (adr k), .int (nI i)])).length) Slot.unset).toArray = ls at hl ⊢
  have hl : lv_has ls 3 [(0, .ref (adr k)), (1, .int (nI i))] := hl
  refine lv_iconst (v := 0) hx hb dX2_settleOn_0 (by decide) ?_
  refine lv_istore_n (lv' := [(2, .int 0), (0, .ref (adr k)), (1, .int (nI i))]) hx hb dX2_settleOn_1 rfl hl (by decide) rfl (fun ls hl => ?_)
  have L2 : ∀ (f : Nat) (r : Nat) (E1 : Nat → va_E) (H : Heap) (locs : List Loc), ct - r < f → r ≤ ct → E1 k = .inr (2, [.ref (adr (k + 1)), .ref (adr (k + 2)), .ref (adr (k + 3)), .ref (adr (k + 4)), .int (nI ct)]) → E1 (k + 1) = .inl (cA 0, 120, .inl (fun j => nI (nm j))) → E1 (k + 2) = .inl (cA 0, 120, .inl (fun j => nI (td j))) → E1 (k + 3) = .inl (cA 0, 120, .inl vl) → E1 (k + 4) = .inl (cA 1, 120, .inl (fun j => bI ((fun j => if j < r ∧ nm j = nm i then decide (j = i) else sd j) j))) → (∀ j, j ≠ k + 4 → E1 j = E j) → va_P D kcl (wl adr n E1) H → va_S (fun q => lo ≤ q) s.heap H locs → ∀ ls : Array Slot, lv_has ls 3 [(2, .int (nI r)), (0, .ref (adr k)), (1, .int (nI i))] → W p l e (headSpec (.code yX2_settleOn cX2_settleOn 3 none :: lw_G) ({ frames := 0, cells := 0, slots := 0, locals := 0 } : Room)).room s m [.ref (adr k), .int (nI i)].toArray below meth c H locs 0 0 (MQ below (wq D lo adr n (none) (fun E2 => E2 (k + 4) = .inl (cA 1, 120, .inl (fun j => bI ((fun j => if j < ct ∧ nm j = nm i then decide (j = i) else sd j) j))) ∧ ∀ j, j ≠ k + 4 → E2 j = E j)) [.ref (adr k), .int (nI i)].toArray s 0 0 (fun q => lo ≤ q)) (F0 m 2 ls []) := by
    intro f
    induction f with
    | zero => intro r E1 H locs h0; exact absurd h0 (by omega)
    | succ f ih =>
      intro r E1 H locs hf hr2 hE0 hE1 hE2 hE3 hE4 hF hP hS ls hl
      refine lv_iload_n hx hb dX2_settleOn_2 rfl (lv_at hl 0 rfl) ?_
      refine lv_aload_n hx hb dX2_settleOn_3 rfl (lv_at hl 1 rfl) ?_
      refine va_get (D := D) (ci := 2) (v := .int (nI ct)) (C := RX2) (T := TX2) (N := 5) hx hb hG inG_X2 hown hK hP k (wl_at (by omega) hE0) rfl 4 (by decide) (hG _ g_40) (fun _ h9 => h9) rfl dX2_settleOn_4 ?_
      refine lv_icmp_ge (tgt := 47) hx hb dX2_settleOn_7 (by decide) (fun c7 => ?_) (fun c7 => ?_)
      · have n7 : ct ≤ r := (nI_leI (a := ct) (b := r) (by omega) (by omega)).mp c7
        exact W.vret hx hb hr (fun t ht _ => ⟨rfl, E1, ⟨by rw [show r = ct from by omega] at hE4; exact hE4, hF⟩, by rw [ht]; exact hP, hS.F ht⟩) hS.2.2 dX2_settleOn_47
      · have n7 : ¬ ct ≤ r := fun h => c7 ((nI_leI (a := ct) (b := r) (by omega) (by omega)).mpr h)
        have b1 := hnm r
        have b2 := hnm i
        refine lv_aload_n hx hb dX2_settleOn_10 rfl (lv_at hl 1 rfl) ?_
        refine va_get (D := D) (ci := 2) (v := .ref (adr (k + 1))) (C := RX2) (T := TX2) (N := 5) hx hb hG inG_X2 hown hK hP k (wl_at (by omega) hE0) rfl 0 (by decide) (hG _ g_32) (fun _ h9 => h9) rfl dX2_settleOn_11 ?_
        refine lv_iload_n hx hb dX2_settleOn_14 rfl (lv_at hl 0 rfl) ?_
        refine wn_iald (j := r) hx hb hK hP (by omega) hE1 (by omega) (by decide) dX2_settleOn_15 ?_
        refine lv_aload_n hx hb dX2_settleOn_16 rfl (lv_at hl 1 rfl) ?_
        refine va_get (D := D) (ci := 2) (v := .ref (adr (k + 1))) (C := RX2) (T := TX2) (N := 5) hx hb hG inG_X2 hown hK hP k (wl_at (by omega) hE0) rfl 0 (by decide) (hG _ g_32) (fun _ h9 => h9) rfl dX2_settleOn_17 ?_
        refine lv_iload_n hx hb dX2_settleOn_20 rfl (lv_at hl 2 rfl) ?_
        refine wn_iald (j := i) hx hb hK hP (by omega) hE1 (by omega) (by decide) dX2_settleOn_21 ?_
        refine lv_icmp_ne (tgt := 41) hx hb dX2_settleOn_22 (by decide) (fun c22 => ?_) (fun c22 => ?_)
        · have n22 : ¬ (nm r) = (nm i) := fun h => c22 ((nI_eq (a := (nm r)) (b := (nm i)) (by omega) (by omega)).mpr h)
          refine lv_iinc (v := nI (r + 1)) (lv' := [(2, .int (nI (r + 1))), (0, .ref (adr k)), (1, .int (nI i))]) hx hb dX2_settleOn_41 hl (k := 0) rfl (nI_1 _) (by decide) rfl (fun ls hl => ?_)
          refine lv_goto (tgt := 2) hx hb dX2_settleOn_44 (by decide) ?_
          exact ih (r + 1) E1 _ _ (by omega) (by omega) hE0 hE1 hE2 hE3 (hE4.trans (congrArg (fun z => Sum.inl (cA 1, 120, Sum.inl z)) (funext fun j => congrArg bI (st_mis j n22)))) hF hP hS ls (lv_sub hl [0, 1, 2] rfl)
        · have n22 : (nm r) = (nm i) := (nI_eq (a := (nm r)) (b := (nm i)) (by omega) (by omega)).mp c22
          refine lv_aload_n hx hb dX2_settleOn_25 rfl (lv_at hl 1 rfl) ?_
          refine va_get (D := D) (ci := 2) (v := .ref (adr (k + 4))) (C := RX2) (T := TX2) (N := 5) hx hb hG inG_X2 hown hK hP k (wl_at (by omega) hE0) rfl 3 (by decide) (hG _ g_38) (fun _ h9 => h9) rfl dX2_settleOn_26 ?_
          refine lv_iload_n hx hb dX2_settleOn_29 rfl (lv_at hl 0 rfl) ?_
          refine lv_iload_n hx hb dX2_settleOn_30 rfl (lv_at hl 0 rfl) ?_
          refine lv_iload_n hx hb dX2_settleOn_31 rfl (lv_at hl 2 rfl) ?_
          refine lv_icmp_ne (tgt := 39) hx hb dX2_settleOn_32 (by decide) (fun c32 => ?_) (fun c32 => ?_)
          · have n32 : ¬ r = i := fun h => c32 ((nI_eq (a := r) (b := i) (by omega) (by omega)).mpr h)
            refine lv_iconst (v := 0) hx hb dX2_settleOn_39 (by decide) ?_
            refine lv_topi (fun y9 e9 => ?_)
            have e9 : y9 = bI false := e9.trans (bI_f.symm)
            subst e9
            refine wn_zast (j := r) hx hb hK hAd hP hS (by omega) hE4 (by omega) (by decide) dX2_settleOn_40 (fun H locs hP hS => ?_)
            rw [upd_bI] at hP
            obtain ⟨E1x, hE1x⟩ : ∃ z, z = va_up E1 (k + 4) (.inl (cA 1, 120, .inl (fun j => bI (upZ (fun j => if j < r ∧ nm j = nm i then decide (j = i) else sd j) r false j)))) := ⟨_, rfl⟩
            have hP : va_P D kcl (wl adr n E1x) H := by rw [hE1x]; exact hP
            have hE0 := (show E1x k = E1 k from by rw [hE1x, va_up_ne _ _ (by omega)]).trans hE0
            have hE1 := (show E1x (k + 1) = E1 (k + 1) from by rw [hE1x, va_up_ne _ _ (by omega)]).trans hE1
            have hE2 := (show E1x (k + 2) = E1 (k + 2) from by rw [hE1x, va_up_ne _ _ (by omega)]).trans hE2
            have hE3 := (show E1x (k + 3) = E1 (k + 3) from by rw [hE1x, va_up_ne _ _ (by omega)]).trans hE3
            have hE4 : E1x (k + 4) = .inl (cA 1, 120, .inl (fun j => bI (upZ (fun j => if j < r ∧ nm j = nm i then decide (j = i) else sd j) r false j))) := by rw [hE1x, va_up_self]
            have hF : ∀ j, j ≠ k + 4 → E1x j = E j := fun j z0 => (show E1x j = E1 j from by rw [hE1x, va_up_ne _ _ z0]).trans (hF j z0)
            refine lv_iinc (v := nI (r + 1)) (lv' := [(2, .int (nI (r + 1))), (0, .ref (adr k)), (1, .int (nI i))]) hx hb dX2_settleOn_41 hl (k := 0) rfl (nI_1 _) (by decide) rfl (fun ls hl => ?_)
            refine lv_goto (tgt := 2) hx hb dX2_settleOn_44 (by decide) ?_
            exact ih (r + 1) E1x _ _ (by omega) (by omega) hE0 hE1 hE2 hE3 (hE4.trans (congrArg (fun z => Sum.inl (cA 1, 120, Sum.inl z)) (funext fun j => congrArg bI (st_hit j (by omega) (by first | (rw [decide_eq_true n32]) | (rw [decide_eq_false n32])))))) hF hP hS ls (lv_sub hl [0, 1, 2] rfl)
          · have n32 : r = i := (nI_eq (a := r) (b := i) (by omega) (by omega)).mp c32
            refine lv_iconst (v := 1) hx hb dX2_settleOn_35 (by decide) ?_
            refine lv_goto (tgt := 40) hx hb dX2_settleOn_36 (by decide) ?_
            refine lv_topi (fun y9 e9 => ?_)
            have e9 : y9 = bI true := e9.trans (bI_t.symm)
            subst e9
            refine wn_zast (j := r) hx hb hK hAd hP hS (by omega) hE4 (by omega) (by decide) dX2_settleOn_40 (fun H locs hP hS => ?_)
            rw [upd_bI] at hP
            obtain ⟨E2x, hE2x⟩ : ∃ z, z = va_up E1 (k + 4) (.inl (cA 1, 120, .inl (fun j => bI (upZ (fun j => if j < r ∧ nm j = nm i then decide (j = i) else sd j) r true j)))) := ⟨_, rfl⟩
            have hP : va_P D kcl (wl adr n E2x) H := by rw [hE2x]; exact hP
            have hE0 := (show E2x k = E1 k from by rw [hE2x, va_up_ne _ _ (by omega)]).trans hE0
            have hE1 := (show E2x (k + 1) = E1 (k + 1) from by rw [hE2x, va_up_ne _ _ (by omega)]).trans hE1
            have hE2 := (show E2x (k + 2) = E1 (k + 2) from by rw [hE2x, va_up_ne _ _ (by omega)]).trans hE2
            have hE3 := (show E2x (k + 3) = E1 (k + 3) from by rw [hE2x, va_up_ne _ _ (by omega)]).trans hE3
            have hE4 : E2x (k + 4) = .inl (cA 1, 120, .inl (fun j => bI (upZ (fun j => if j < r ∧ nm j = nm i then decide (j = i) else sd j) r true j))) := by rw [hE2x, va_up_self]
            have hF : ∀ j, j ≠ k + 4 → E2x j = E j := fun j z0 => (show E2x j = E1 j from by rw [hE2x, va_up_ne _ _ z0]).trans (hF j z0)
            refine lv_iinc (v := nI (r + 1)) (lv' := [(2, .int (nI (r + 1))), (0, .ref (adr k)), (1, .int (nI i))]) hx hb dX2_settleOn_41 hl (k := 0) rfl (nI_1 _) (by decide) rfl (fun ls hl => ?_)
            refine lv_goto (tgt := 2) hx hb dX2_settleOn_44 (by decide) ?_
            exact ih (r + 1) E2x _ _ (by omega) (by omega) hE0 hE1 hE2 hE3 (hE4.trans (congrArg (fun z => Sum.inl (cA 1, 120, Sum.inl z)) (funext fun j => congrArg bI (st_hit j (by omega) (by first | (rw [decide_eq_true n32]) | (rw [decide_eq_false n32])))))) hF hP hS ls (lv_sub hl [0, 1, 2] rfl)
  exact L2 (ct + 1) 0 E _ _ (by omega) (by omega) hE0 hE1 hE2 hE3 (hE4.trans (congrArg (fun z => Sum.inl (cA 1, 120, Sum.inl z)) (funext fun j => by simp))) hF hP hS ls (lv_sub hl [0, 1, 2] rfl)
