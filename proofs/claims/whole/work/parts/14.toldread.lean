set_option maxHeartbeats 4000000 in
set_option maxRecDepth 100000 in
theorem cX3_hasRival_r {l : Launch} {D : va_G} {cA : Nat → ClassId} {adr : Nat → Nat} {n : Nat} {E : Nat → va_E} {S : CS} (hn : 30 ≤ n) (hR : Rep cA adr S E) {d : Nat} (hd : d < 3) {i : Nat} (hi : i < 120) : Met l yX3_hasRival (.code yX3_hasRival cX3_hasRival 4 (some .boolean) :: lw_G) ({ frames := 1, cells := 0, slots := 0, locals := 22 } : Room) (va_Pc [.ref (adr 0), .ref (adr (9 + 2 * d)), .int (nI i)] (wdU D (kty cA) adr n E)) (QcRead (bI (anB (fun r => c_rv S i r && c_has S d r) (c_ct S)))) 0 0 (fun _ => False) := by
  refine Met.ofW (cc := cX3_hasRival) (maxL := 4) (ret := (some .boolean)) (by decide) rfl ?_
  intro p e s m args below meth c s₁ B hml hv
  obtain ⟨rfl, hP, hN⟩ := hv
  have hx := B.exec
  have hb := B.bytes
  have hr := B.returns
  have hG : ∀ w ∈ lw_G, w.before _ s = true := fun w h => atoms_spec (ws := _ :: lw_G) B.pre w (List.mem_cons_of_mem _ h)
  have hown : s.vm.findClass RX3 = some m.cls := findClass_of_methodNamed B.named
  have hlocks := B.notSynchronized
  have hK := hN.1
  have hl := lv_entry ([.ref (adr 0), .ref (adr (9 + 2 * d)), .int (nI i)]) (n := 4) (Nat.le_of_ble_eq_true rfl)
  rw [lg_entry_eq]
  generalize (lg_sl ([.ref (adr 0), .ref (adr (9 + 2 * d)), .int (nI i)]) ++ List.replicate (4 - (lg_sl ([.ref (adr 0), .ref (adr (9 + 2 * d)), .int (nI i)])).length) Slot.unset).toArray = ls at hl ⊢
  have hl : lv_has ls 4 [(0, .ref (adr 0)), (1, .ref (adr (9 + 2 * d))), (2, .int (nI i))] := hl
  obtain ⟨hE0, hE1, hE2, hK0, hK1, hK2, hK3, hK4, ⟨hdv, hE8⟩, hDk, hTl, hct, hnm, htd, hmk, hlf⟩ := id hR
  obtain ⟨hD0, hD1⟩ := hDk d hd
  refine lv_iconst (v := 0) hx hb dX3_hasRival_0 (by decide) ?_
  refine lv_istore_n (lv' := [(3, .int 0), (0, .ref (adr 0)), (1, .ref (adr (9 + 2 * d))), (2, .int (nI i))]) hx hb dX3_hasRival_1 rfl hl (by decide) rfl (fun ls hl => ?_)
  have L2 : ∀ (f : Nat) (r : Nat), c_ct S - r < f → r ≤ c_ct S → anB (fun r => c_rv S i r && c_has S d r) r = false → ∀ ls : Array Slot, lv_has ls 4 [(3, .int (nI r)), (0, .ref (adr 0)), (1, .ref (adr (9 + 2 * d))), (2, .int (nI i))] → W p l e (headSpec (.code yX3_hasRival cX3_hasRival 4 (some .boolean) :: lw_G) ({ frames := 1, cells := 0, slots := 0, locals := 22 } : Room)).room s m [.ref (adr 0), .ref (adr (9 + 2 * d)), .int (nI i)].toArray below meth c s.heap [] 0 0 (MQ below (QcRead (bI (anB (fun r => c_rv S i r && c_has S d r) (c_ct S)))) [.ref (adr 0), .ref (adr (9 + 2 * d)), .int (nI i)].toArray s 0 0 (fun _ => False)) (F0 m 2 ls []) := by
    intro f
    induction f with
    | zero => intro r h0; exact absurd h0 (by omega)
    | succ f ih =>
      intro r hf hr2 hq ls hl
      refine lv_iload_n hx hb dX3_hasRival_2 rfl (lv_at hl 0 rfl) ?_
      refine lv_aload_n hx hb dX3_hasRival_3 rfl (lv_at hl 1 rfl) ?_
      refine va_get (D := D) (ci := 3) (v := .ref (adr 3)) (C := RX3) (T := TX3) (N := 4) hx hb hG inG_X3 hown hK hP 0 (wl_at (by omega) hE0) rfl 2 (by decide) (hG _ g_101) (fun _ h9 => h9) rfl dX3_hasRival_4 ?_
      refine va_get (D := D) (ci := 2) (v := .int (nI (c_ct S))) (C := RX2) (T := TX2) (N := 5) hx hb hG inG_X2 hown hK hP 3 (wl_at (by omega) hK0) rfl 4 (by decide) (hG _ g_41) (fun _ h9 => h9) rfl dX3_hasRival_7 ?_
      refine lv_icmp_ge (tgt := 41) hx hb dX3_hasRival_10 (by decide) (fun c10 => ?_) (fun c10 => ?_)
      · have n10 : (c_ct S) ≤ r := (nI_leI (a := (c_ct S)) (b := r) (by omega) (by omega)).mp c10
        refine lv_iconst (v := 0) hx hb dX3_hasRival_41 (by decide) ?_
        have h9 : (0 : Int32) = bI (anB (fun r => c_rv S i r && c_has S d r) (c_ct S)) := by rw [show c_ct S = r from by omega, hq]; rfl
        exact W.zret (v := 0) hx hb hr (by first | rfl | exact bI_nar _) (fun t ht _ => ⟨congrArg (fun z => Outcome.returned (some (Value.int z))) h9, ht⟩) (fun _ h => nomatch h) dX3_hasRival_42
      · have n10 : ¬ (c_ct S) ≤ r := fun h => c10 ((nI_leI (a := (c_ct S)) (b := r) (by omega) (by omega)).mpr h)
        refine lv_aload_n hx hb dX3_hasRival_13 rfl (lv_at hl 1 rfl) ?_
        refine va_get (D := D) (ci := 3) (v := .ref (adr 3)) (C := RX3) (T := TX3) (N := 4) hx hb hG inG_X3 hown hK hP 0 (wl_at (by omega) hE0) rfl 2 (by decide) (hG _ g_101) (fun _ h9 => h9) rfl dX3_hasRival_14 ?_
        refine lv_iload_n hx hb dX3_hasRival_17 rfl (lv_at hl 3 rfl) ?_
        refine lv_iload_n hx hb dX3_hasRival_18 rfl (lv_at hl 0 rfl) ?_
        refine wn_rV (rest := []) hx hb hml hown hG hN hP (cX2_areRivals_r (by omega) hct hK0 hK1 hK2 hK3 hK4 hnm htd (i := i) (j := r) (by omega) (by omega)) (cwV 2 hG (gV g_319 g_320 g_321 g_2 g_322) rfl rfl rfl (by decide +kernel) ⟨Nat.le_of_ble_eq_true rfl, Nat.le_of_ble_eq_true rfl⟩) (by omega) hK0 rfl rfl hl.1 rfl (Nat.le_of_ble_eq_true rfl) dX3_hasRival_19 ⟨Nat.zero_le _, Nat.zero_le _⟩ ?_
        refine lv_if_eq (tgt := 35) hx hb dX3_hasRival_22 (by decide) (fun c22 => ?_) (fun c22 => ?_)
        · have n22 : (c_rv S i r) = false := bI_0.mp c22
          refine lv_iinc (v := nI (r + 1)) (lv' := [(3, .int (nI (r + 1))), (0, .ref (adr 0)), (1, .ref (adr (9 + 2 * d))), (2, .int (nI i))]) hx hb dX3_hasRival_35 hl (k := 0) rfl (nI_1 _) (by decide) rfl (fun ls hl => ?_)
          refine lv_goto (tgt := 2) hx hb dX3_hasRival_38 (by decide) ?_
          exact ih (r + 1) (by omega) (by omega) (by simp only [anB, hq, Bool.false_or]; first | rw [n22, Bool.false_and] | rw [n30, Bool.and_false]) ls (lv_sub hl [0, 1, 2, 3] rfl)
        · have n22 : (c_rv S i r) = true := bI_1.mp c22
          refine lv_aload_n hx hb dX3_hasRival_25 rfl (lv_at hl 2 rfl) ?_
          refine lv_iload_n hx hb dX3_hasRival_26 rfl (lv_at hl 0 rfl) ?_
          refine wn_rV (rest := []) hx hb hml hown hG hN hP (cX0_has_r (by omega) hD0 hD1 (j := r) (by omega)) (cwV 1 hG (gV g_307 g_308 g_309 g_4 g_310) rfl rfl rfl (by decide +kernel) ⟨Nat.le_of_ble_eq_true rfl, Nat.le_of_ble_eq_true rfl⟩) (by omega) hD0 rfl rfl hl.1 rfl (Nat.le_of_ble_eq_true rfl) dX3_hasRival_27 ⟨Nat.zero_le _, Nat.zero_le _⟩ ?_
          refine lv_if_eq (tgt := 35) hx hb dX3_hasRival_30 (by decide) (fun c30 => ?_) (fun c30 => ?_)
          · have n30 : (c_has S d r) = false := bI_0.mp c30
            refine lv_iinc (v := nI (r + 1)) (lv' := [(3, .int (nI (r + 1))), (0, .ref (adr 0)), (1, .ref (adr (9 + 2 * d))), (2, .int (nI i))]) hx hb dX3_hasRival_35 hl (k := 0) rfl (nI_1 _) (by decide) rfl (fun ls hl => ?_)
            refine lv_goto (tgt := 2) hx hb dX3_hasRival_38 (by decide) ?_
            exact ih (r + 1) (by omega) (by omega) (by simp only [anB, hq, Bool.false_or]; first | rw [n22, Bool.false_and] | rw [n30, Bool.and_false]) ls (lv_sub hl [0, 1, 2, 3] rfl)
          · have n30 : (c_has S d r) = true := bI_1.mp c30
            refine lv_iconst (v := 1) hx hb dX3_hasRival_33 (by decide) ?_
            have h9 : (1 : Int32) = bI (anB (fun r => c_rv S i r && c_has S d r) (c_ct S)) := by rw [anB_hit (P := fun r => c_rv S i r && c_has S d r) (i := r) (by simp only [n22, n30]; rfl) (by omega)]; rfl
            exact W.zret (v := 1) hx hb hr (by first | rfl | exact bI_nar _) (fun t ht _ => ⟨congrArg (fun z => Outcome.returned (some (Value.int z))) h9, ht⟩) (fun _ h => nomatch h) dX3_hasRival_34
  exact L2 (c_ct S + 1) 0 (by omega) (by omega) rfl ls (lv_sub hl [0, 1, 2, 3] rfl)

set_option maxHeartbeats 4000000 in
set_option maxRecDepth 100000 in
theorem cX3_realTimeOf_r {l : Launch} {D : va_G} {cA : Nat → ClassId} {adr : Nat → Nat} {n : Nat} {E : Nat → va_E} {S : CS} (hn : 30 ≤ n) (hR : Rep cA adr S E) {i : Nat} (hi : i < 120) : Met l yX3_realTimeOf (.code yX3_realTimeOf cX3_realTimeOf 3 (some .int) :: lw_G) ({ frames := 2, cells := 0, slots := 0, locals := 48 } : Room) (va_Pc [.ref (adr 0), .int (nI i)] (wdU D (kty cA) adr n E)) (QcRead (c_rt S i)) 0 0 (fun _ => False) := by
  refine Met.ofW (cc := cX3_realTimeOf) (maxL := 3) (ret := (some .int)) (by decide) rfl ?_
  intro p e s m args below meth c s₁ B hml hv
  obtain ⟨rfl, hP, hN⟩ := hv
  have hx := B.exec
  have hb := B.bytes
  have hr := B.returns
  have hG : ∀ w ∈ lw_G, w.before _ s = true := fun w h => atoms_spec (ws := _ :: lw_G) B.pre w (List.mem_cons_of_mem _ h)
  have hown : s.vm.findClass RX3 = some m.cls := findClass_of_methodNamed B.named
  have hlocks := B.notSynchronized
  have hK := hN.1
  have hl := lv_entry ([.ref (adr 0), .int (nI i)]) (n := 3) (Nat.le_of_ble_eq_true rfl)
  rw [lg_entry_eq]
  generalize (lg_sl ([.ref (adr 0), .int (nI i)]) ++ List.replicate (3 - (lg_sl ([.ref (adr 0), .int (nI i)])).length) Slot.unset).toArray = ls at hl ⊢
  have hl : lv_has ls 3 [(0, .ref (adr 0)), (1, .int (nI i))] := hl
  obtain ⟨hE0, hE1, hE2, hK0, hK1, hK2, hK3, hK4, ⟨hdv, hE8⟩, hDk, hTl, hct, hnm, htd, hmk, hlf⟩ := id hR
  have b1 := hnm i
  have b2 := htd i
  have b3 : c_nm S i / 512 < 5 := by omega
  obtain ⟨hT0, hT1, hT2⟩ := hTl _ b3
  refine lv_aload_n hx hb dX3_realTimeOf_0 rfl (lv_at hl 0 rfl) ?_
  refine va_get (D := D) (ci := 3) (v := .ref (adr 3)) (C := RX3) (T := TX3) (N := 4) hx hb hG inG_X3 hown hK hP 0 (wl_at (by omega) hE0) rfl 2 (by decide) (hG _ g_101) (fun _ h9 => h9) rfl dX3_realTimeOf_1 ?_
  refine lv_iload_n hx hb dX3_realTimeOf_4 rfl (lv_at hl 1 rfl) ?_
  refine wn_rV (rest := []) hx hb hml hown hG hN hP (cX2_teller_r (by omega) hct hK0 hK1 hK2 hK3 hK4 hnm htd (i := i) (by omega)) (cwV 1 hG (gV g_432 g_433 g_434 g_2 g_435) rfl rfl rfl (by decide +kernel) ⟨Nat.le_of_ble_eq_true rfl, Nat.le_of_ble_eq_true rfl⟩) (by omega) hK0 rfl rfl hl.1 rfl (Nat.le_of_ble_eq_true rfl) dX3_realTimeOf_5 ⟨Nat.zero_le _, Nat.zero_le _⟩ ?_
  refine lv_istore_n (lv' := [(2, .int (nI (c_nm S i / 512))), (0, .ref (adr 0)), (1, .int (nI i))]) hx hb dX3_realTimeOf_8 rfl hl (by decide) rfl (fun ls hl => ?_)
  refine lv_iload_n hx hb dX3_realTimeOf_9 rfl (lv_at hl 0 rfl) ?_
  refine lv_iconst (v := 5) hx hb dX3_realTimeOf_10 (by decide) ?_
  refine lv_icmp_ge (tgt := 38) hx hb dX3_realTimeOf_11 (by decide) (fun c11 => ?_) (fun c11 => ?_)
  · have n11 : 5 ≤ (c_nm S i / 512) := (nI_leI (a := 5) (b := (c_nm S i / 512)) (by omega) (by omega)).mp c11
    exact absurd n11 (by omega)
  · have n11 : ¬ 5 ≤ (c_nm S i / 512) := fun h => c11 ((nI_leI (a := 5) (b := (c_nm S i / 512)) (by omega) (by omega)).mpr h)
    refine lv_aload_n hx hb dX3_realTimeOf_14 rfl (lv_at hl 1 rfl) ?_
    refine va_get (D := D) (ci := 3) (v := .ref (adr 1)) (C := RX3) (T := TX3) (N := 4) hx hb hG inG_X3 hown hK hP 0 (wl_at (by omega) hE0) rfl 0 (by decide) (hG _ g_99) (fun _ h9 => h9) rfl dX3_realTimeOf_15 ?_
    refine lv_iload_n hx hb dX3_realTimeOf_18 rfl (lv_at hl 0 rfl) ?_
    refine wn_ald (j := (c_nm S i / 512)) (g := fun j => 15 + 3 * j) hx hb hK hP 2 (by omega) hE1 rfl (by omega) (by decide) dX3_realTimeOf_19 ?_
    refine lv_aload_n hx hb dX3_realTimeOf_20 rfl (lv_at hl 1 rfl) ?_
    refine va_get (D := D) (ci := 3) (v := .ref (adr 3)) (C := RX3) (T := TX3) (N := 4) hx hb hG inG_X3 hown hK hP 0 (wl_at (by omega) hE0) rfl 2 (by decide) (hG _ g_101) (fun _ h9 => h9) rfl dX3_realTimeOf_21 ?_
    refine va_get (D := D) (ci := 2) (v := .ref (adr (3 + 2))) (C := RX2) (T := TX2) (N := 5) hx hb hG inG_X2 hown hK hP 3 (wl_at (by omega) hK0) rfl 1 (by decide) (hG _ g_35) (fun _ h9 => h9) rfl dX3_realTimeOf_24 ?_
    refine lv_iload_n hx hb dX3_realTimeOf_27 rfl (lv_at hl 2 rfl) ?_
    refine wn_iald (j := i) hx hb hK hP (by omega) hK2 (by omega) (by decide) dX3_realTimeOf_28 ?_
    refine wn_rS (rest := [.ref (adr (15 + 3 * (c_nm S i / 512)))]) hx hb hml hown hG (cX3_timeIn_r _) (cwS 1 hG (gS g_274 g_275 g_1 g_276) rfl rfl rfl (by decide +kernel) ⟨Nat.le_of_ble_eq_true rfl, Nat.le_of_ble_eq_true rfl⟩) rfl hl.1 rfl (Nat.le_of_ble_eq_true rfl) dX3_realTimeOf_29 ⟨Nat.zero_le _, Nat.zero_le _⟩ ?_
    refine lv_topi (fun y9 e9 => ?_)
    have e9 : y9 = nI (c_td S i % 2 ^ 20) := e9.trans (pk_andN (by omega) 20 (by decide))
    subst e9
    refine wn_rV (rest := []) hx hb hml hown hG hN hP (cX1_realTime_r (by omega) (hmk _ b3) hT0 hT1 hT2 _) (cwV 1 hG (gV g_246 g_247 g_248 g_3 g_249) rfl rfl rfl (by decide +kernel) ⟨Nat.le_of_ble_eq_true rfl, Nat.le_of_ble_eq_true rfl⟩) (by omega) hT0 rfl rfl hl.1 rfl (Nat.le_of_ble_eq_true rfl) dX3_realTimeOf_32 ⟨Nat.zero_le _, Nat.zero_le _⟩ ?_
    refine lv_goto (tgt := 39) hx hb dX3_realTimeOf_35 (by decide) ?_
    have h9 : (rt (c_mk S (c_nm S i / 512)) (c_ow S (c_nm S i / 512)) (c_re S (c_nm S i / 512)) (nI (c_td S i % 2 ^ 20)) : Int32) = c_rt S i := rfl
    exact W.iret (v := rt (c_mk S (c_nm S i / 512)) (c_ow S (c_nm S i / 512)) (c_re S (c_nm S i / 512)) (nI (c_td S i % 2 ^ 20))) hx hb hr (fun t ht _ => ⟨congrArg (fun z => Outcome.returned (some (Value.int z))) h9, ht⟩) (fun _ h => nomatch h) dX3_realTimeOf_39

set_option maxHeartbeats 4000000 in
set_option maxRecDepth 100000 in
theorem cX3_isLater_r {l : Launch} {D : va_G} {cA : Nat → ClassId} {adr : Nat → Nat} {n : Nat} {E : Nat → va_E} {S : CS} (hn : 30 ≤ n) (hR : Rep cA adr S E) {i j : Nat} (hi : i < 120) (hj : j < 120) : Met l yX3_isLater (.code yX3_isLater cX3_isLater 5 (some .boolean) :: lw_G) ({ frames := 3, cells := 0, slots := 0, locals := 70 } : Room) (va_Pc [.ref (adr 0), .int (nI i), .int (nI j)] (wdU D (kty cA) adr n E)) (QcRead (bI (c_ltr S i j))) 0 0 (fun _ => False) := by
  refine Met.ofW (cc := cX3_isLater) (maxL := 5) (ret := (some .boolean)) (by decide) rfl ?_
  intro p e s m args below meth c s₁ B hml hv
  obtain ⟨rfl, hP, hN⟩ := hv
  have hx := B.exec
  have hb := B.bytes
  have hr := B.returns
  have hG : ∀ w ∈ lw_G, w.before _ s = true := fun w h => atoms_spec (ws := _ :: lw_G) B.pre w (List.mem_cons_of_mem _ h)
  have hown : s.vm.findClass RX3 = some m.cls := findClass_of_methodNamed B.named
  have hlocks := B.notSynchronized
  have hK := hN.1
  have hl := lv_entry ([.ref (adr 0), .int (nI i), .int (nI j)]) (n := 5) (Nat.le_of_ble_eq_true rfl)
  rw [lg_entry_eq]
  generalize (lg_sl ([.ref (adr 0), .int (nI i), .int (nI j)]) ++ List.replicate (5 - (lg_sl ([.ref (adr 0), .int (nI i), .int (nI j)])).length) Slot.unset).toArray = ls at hl ⊢
  have hl : lv_has ls 5 [(0, .ref (adr 0)), (1, .int (nI i)), (2, .int (nI j))] := hl
  obtain ⟨hE0, hE1, hE2, hK0, hK1, hK2, hK3, hK4, ⟨hdv, hE8⟩, hDk, hTl, hct, hnm, htd, hmk, hlf⟩ := id hR
  have b1 := hnm i
  have b2 := hnm j
  have b3 : c_rk S i < 2 ^ 31 := by unfold c_rk; omega
  have b4 : c_rk S j < 2 ^ 31 := by unfold c_rk; omega
  refine lv_aload_n hx hb dX3_isLater_0 rfl (lv_at hl 0 rfl) ?_
  refine lv_iload_n hx hb dX3_isLater_1 rfl (lv_at hl 1 rfl) ?_
  refine wn_rV (rest := []) hx hb hml hown hG hN hP (cX3_realTimeOf_r hn hR (i := i) (by omega)) (cwV 1 hG (gV g_428 g_430 gp_X3_realTimeOf g_1 g_431) rfl rfl rfl (by decide +kernel) ⟨Nat.le_of_ble_eq_true rfl, Nat.le_of_ble_eq_true rfl⟩) (by omega) hE0 rfl rfl hl.1 rfl (Nat.le_of_ble_eq_true rfl) dX3_isLater_2 ⟨Nat.zero_le _, Nat.zero_le _⟩ ?_
  refine lv_istore_n (lv' := [(3, .int (c_rt S i)), (0, .ref (adr 0)), (1, .int (nI i)), (2, .int (nI j))]) hx hb dX3_isLater_5 rfl hl (by decide) rfl (fun ls hl => ?_)
  refine lv_aload_n hx hb dX3_isLater_6 rfl (lv_at hl 1 rfl) ?_
  refine lv_iload_n hx hb dX3_isLater_7 rfl (lv_at hl 3 rfl) ?_
  refine wn_rV (rest := []) hx hb hml hown hG hN hP (cX3_realTimeOf_r hn hR (i := j) (by omega)) (cwV 1 hG (gV g_428 g_430 gp_X3_realTimeOf g_1 g_431) rfl rfl rfl (by decide +kernel) ⟨Nat.le_of_ble_eq_true rfl, Nat.le_of_ble_eq_true rfl⟩) (by omega) hE0 rfl rfl hl.1 rfl (Nat.le_of_ble_eq_true rfl) dX3_isLater_8 ⟨Nat.zero_le _, Nat.zero_le _⟩ ?_
  refine lv_istore (lv' := [(4, .int (c_rt S j)), (3, .int (c_rt S i)), (0, .ref (adr 0)), (1, .int (nI i)), (2, .int (nI j))]) hx hb dX3_isLater_11 hl (by decide) rfl (fun ls hl => ?_)
  refine lv_iload_n hx hb dX3_isLater_13 rfl (lv_at hl 1 rfl) ?_
  refine lv_iload hx hb dX3_isLater_14 (lv_at hl 0 rfl) ?_
  refine lv_icmp_eq (tgt := 33) hx hb dX3_isLater_16 (by decide) (fun c16 => ?_) (fun c16 => ?_)
  · refine lv_aload_n hx hb dX3_isLater_33 rfl (lv_at hl 2 rfl) ?_
    refine va_get (D := D) (ci := 3) (v := .ref (adr 3)) (C := RX3) (T := TX3) (N := 4) hx hb hG inG_X3 hown hK hP 0 (wl_at (by omega) hE0) rfl 2 (by decide) (hG _ g_101) (fun _ h9 => h9) rfl dX3_isLater_34 ?_
    refine lv_iload_n hx hb dX3_isLater_37 rfl (lv_at hl 3 rfl) ?_
    refine wn_rV (rest := []) hx hb hml hown hG hN hP (cX2_rank_r (by omega) hct hK0 hK1 hK2 hK3 hK4 hnm htd (i := i) (by omega)) (cwV 1 hG (gV g_436 g_437 g_438 g_2 g_439) rfl rfl rfl (by decide +kernel) ⟨Nat.le_of_ble_eq_true rfl, Nat.le_of_ble_eq_true rfl⟩) (by omega) hK0 rfl rfl hl.1 rfl (Nat.le_of_ble_eq_true rfl) dX3_isLater_38 ⟨Nat.zero_le _, Nat.zero_le _⟩ ?_
    refine lv_aload_n hx hb dX3_isLater_41 rfl (lv_at hl 2 rfl) ?_
    refine va_get (D := D) (ci := 3) (v := .ref (adr 3)) (C := RX3) (T := TX3) (N := 4) hx hb hG inG_X3 hown hK hP 0 (wl_at (by omega) hE0) rfl 2 (by decide) (hG _ g_101) (fun _ h9 => h9) rfl dX3_isLater_42 ?_
    refine lv_iload_n hx hb dX3_isLater_45 rfl (lv_at hl 4 rfl) ?_
    refine wn_rV (rest := [.int (nI (c_rk S i))]) hx hb hml hown hG hN hP (cX2_rank_r (by omega) hct hK0 hK1 hK2 hK3 hK4 hnm htd (i := j) (by omega)) (cwV 1 hG (gV g_436 g_437 g_438 g_2 g_439) rfl rfl rfl (by decide +kernel) ⟨Nat.le_of_ble_eq_true rfl, Nat.le_of_ble_eq_true rfl⟩) (by omega) hK0 rfl rfl hl.1 rfl (Nat.le_of_ble_eq_true rfl) dX3_isLater_46 ⟨Nat.zero_le _, Nat.zero_le _⟩ ?_
    refine lv_icmp_le (tgt := 56) hx hb dX3_isLater_49 (by decide) (fun c49 => ?_) (fun c49 => ?_)
    · have n49 : (c_rk S i) ≤ (c_rk S j) := (nI_leI (a := (c_rk S i)) (b := (c_rk S j)) (by omega) (by omega)).mp c49
      refine lv_iconst (v := 0) hx hb dX3_isLater_56 (by decide) ?_
      have h9 : (0 : Int32) = bI (c_ltr S i j) := by unfold c_ltr; first | (rw [if_neg c16, show decide (c_rt S j < c_rt S i) = false from by simpa using c22]; rfl) | (rw [if_pos c16, show decide (c_rk S j < c_rk S i) = false from by simpa using n49]; rfl)
      exact W.zret (v := 0) hx hb hr (by first | rfl | exact bI_nar _) (fun t ht _ => ⟨congrArg (fun z => Outcome.returned (some (Value.int z))) h9, ht⟩) (fun _ h => nomatch h) dX3_isLater_57
    · have n49 : ¬ (c_rk S i) ≤ (c_rk S j) := fun h => c49 ((nI_leI (a := (c_rk S i)) (b := (c_rk S j)) (by omega) (by omega)).mpr h)
      refine lv_iconst (v := 1) hx hb dX3_isLater_52 (by decide) ?_
      refine lv_goto (tgt := 57) hx hb dX3_isLater_53 (by decide) ?_
      have h9 : (1 : Int32) = bI (c_ltr S i j) := by unfold c_ltr; first | (rw [if_neg c16, show decide (c_rt S j < c_rt S i) = true from by simpa using c22]; rfl) | (rw [if_pos c16, show decide (c_rk S j < c_rk S i) = true from by simpa using n49]; rfl)
      exact W.zret (v := 1) hx hb hr (by first | rfl | exact bI_nar _) (fun t ht _ => ⟨congrArg (fun z => Outcome.returned (some (Value.int z))) h9, ht⟩) (fun _ h => nomatch h) dX3_isLater_57
  · refine lv_iload_n hx hb dX3_isLater_19 rfl (lv_at hl 1 rfl) ?_
    refine lv_iload hx hb dX3_isLater_20 (lv_at hl 0 rfl) ?_
    refine lv_icmp_le (tgt := 29) hx hb dX3_isLater_22 (by decide) (fun c22 => ?_) (fun c22 => ?_)
    · refine lv_iconst (v := 0) hx hb dX3_isLater_29 (by decide) ?_
      refine lv_goto (tgt := 57) hx hb dX3_isLater_30 (by decide) ?_
      have h9 : (0 : Int32) = bI (c_ltr S i j) := by unfold c_ltr; first | (rw [if_neg c16, show decide (c_rt S j < c_rt S i) = false from by simpa using c22]; rfl) | (rw [if_pos c16, show decide (c_rk S j < c_rk S i) = false from by simpa using n49]; rfl)
      exact W.zret (v := 0) hx hb hr (by first | rfl | exact bI_nar _) (fun t ht _ => ⟨congrArg (fun z => Outcome.returned (some (Value.int z))) h9, ht⟩) (fun _ h => nomatch h) dX3_isLater_57
    · refine lv_iconst (v := 1) hx hb dX3_isLater_25 (by decide) ?_
      refine lv_goto (tgt := 57) hx hb dX3_isLater_26 (by decide) ?_
      have h9 : (1 : Int32) = bI (c_ltr S i j) := by unfold c_ltr; first | (rw [if_neg c16, show decide (c_rt S j < c_rt S i) = true from by simpa using c22]; rfl) | (rw [if_pos c16, show decide (c_rk S j < c_rk S i) = true from by simpa using n49]; rfl)
      exact W.zret (v := 1) hx hb hr (by first | rfl | exact bI_nar _) (fun t ht _ => ⟨congrArg (fun z => Outcome.returned (some (Value.int z))) h9, ht⟩) (fun _ h => nomatch h) dX3_isLater_57

set_option maxHeartbeats 4000000 in
set_option maxRecDepth 100000 in
theorem cX3_countsBy_r {l : Launch} {D : va_G} {cA : Nat → ClassId} {adr : Nat → Nat} {n : Nat} {E : Nat → va_E} {S : CS} (hn : 30 ≤ n) (hR : Rep cA adr S E) {d : Nat} (hd : d < 3) {i : Nat} (hi : i < 120) (mm : Int32) : Met l yX3_countsBy (.code yX3_countsBy cX3_countsBy 5 (some .boolean) :: lw_G) ({ frames := 1, cells := 0, slots := 0, locals := 22 } : Room) (va_Pc [.ref (adr 0), .ref (adr (9 + 2 * d)), .int (nI i), .int mm] (wdU D (kty cA) adr n E)) (QcRead (bI (c_cnt S d i mm))) 0 0 (fun _ => False) := by
  refine Met.ofW (cc := cX3_countsBy) (maxL := 5) (ret := (some .boolean)) (by decide) rfl ?_
  intro p e s m args below meth c s₁ B hml hv
  obtain ⟨rfl, hP, hN⟩ := hv
  have hx := B.exec
  have hb := B.bytes
  have hr := B.returns
  have hG : ∀ w ∈ lw_G, w.before _ s = true := fun w h => atoms_spec (ws := _ :: lw_G) B.pre w (List.mem_cons_of_mem _ h)
  have hown : s.vm.findClass RX3 = some m.cls := findClass_of_methodNamed B.named
  have hlocks := B.notSynchronized
  have hK := hN.1
  have hl := lv_entry ([.ref (adr 0), .ref (adr (9 + 2 * d)), .int (nI i), .int mm]) (n := 5) (Nat.le_of_ble_eq_true rfl)
  rw [lg_entry_eq]
  generalize (lg_sl ([.ref (adr 0), .ref (adr (9 + 2 * d)), .int (nI i), .int mm]) ++ List.replicate (5 - (lg_sl ([.ref (adr 0), .ref (adr (9 + 2 * d)), .int (nI i), .int mm])).length) Slot.unset).toArray = ls at hl ⊢
  have hl : lv_has ls 5 [(0, .ref (adr 0)), (1, .ref (adr (9 + 2 * d))), (2, .int (nI i)), (3, .int mm)] := hl
  obtain ⟨hE0, hE1, hE2, hK0, hK1, hK2, hK3, hK4, ⟨hdv, hE8⟩, hDk, hTl, hct, hnm, htd, hmk, hlf⟩ := id hR
  obtain ⟨hD0, hD1⟩ := hDk d hd
  refine lv_aload_n hx hb dX3_countsBy_0 rfl (lv_at hl 0 rfl) ?_
  refine va_get (D := D) (ci := 3) (v := .ref (adr 3)) (C := RX3) (T := TX3) (N := 4) hx hb hG inG_X3 hown hK hP 0 (wl_at (by omega) hE0) rfl 2 (by decide) (hG _ g_101) (fun _ h9 => h9) rfl dX3_countsBy_1 ?_
  refine va_get (D := D) (ci := 2) (v := .ref (adr (3 + 4))) (C := RX2) (T := TX2) (N := 5) hx hb hG inG_X2 hown hK hP 3 (wl_at (by omega) hK0) rfl 3 (by decide) (hG _ g_39) (fun _ h9 => h9) rfl dX3_countsBy_4 ?_
  refine lv_iload_n hx hb dX3_countsBy_7 rfl (lv_at hl 2 rfl) ?_
  refine wn_zald (j := i) hx hb hK hP (by omega) hK4 (by omega) (by decide) dX3_countsBy_8 ?_
  refine lv_if_eq (tgt := 14) hx hb dX3_countsBy_9 (by decide) (fun c9 => ?_) (fun c9 => ?_)
  · have n9 : (c_sd S i) = false := bI_0.mp c9
    refine lv_iconst (v := 0) hx hb dX3_countsBy_14 (by decide) ?_
    refine lv_istore (lv' := [(4, .int 0), (0, .ref (adr 0)), (1, .ref (adr (9 + 2 * d))), (2, .int (nI i)), (3, .int mm)]) hx hb dX3_countsBy_15 hl (by decide) rfl (fun ls hl => ?_)
    have L17 : ∀ (f : Nat) (r : Nat), c_ct S - r < f → r ≤ c_ct S → anB (fun r => c_rv S i r && (c_sd S r || c_had S d r mm)) r = false → ∀ ls : Array Slot, lv_has ls 5 [(4, .int (nI r)), (0, .ref (adr 0)), (1, .ref (adr (9 + 2 * d))), (2, .int (nI i)), (3, .int mm)] → W p l e (headSpec (.code yX3_countsBy cX3_countsBy 5 (some .boolean) :: lw_G) ({ frames := 1, cells := 0, slots := 0, locals := 22 } : Room)).room s m [.ref (adr 0), .ref (adr (9 + 2 * d)), .int (nI i), .int mm].toArray below meth c s.heap [] 0 0 (MQ below (QcRead (bI (c_cnt S d i mm))) [.ref (adr 0), .ref (adr (9 + 2 * d)), .int (nI i), .int mm].toArray s 0 0 (fun _ => False)) (F0 m 17 ls []) := by
      intro f
      induction f with
      | zero => intro r h0; exact absurd h0 (by omega)
      | succ f ih =>
        intro r hf hr2 hq ls hl
        refine lv_iload hx hb dX3_countsBy_17 (lv_at hl 0 rfl) ?_
        refine lv_aload_n hx hb dX3_countsBy_19 rfl (lv_at hl 1 rfl) ?_
        refine va_get (D := D) (ci := 3) (v := .ref (adr 3)) (C := RX3) (T := TX3) (N := 4) hx hb hG inG_X3 hown hK hP 0 (wl_at (by omega) hE0) rfl 2 (by decide) (hG _ g_101) (fun _ h9 => h9) rfl dX3_countsBy_20 ?_
        refine va_get (D := D) (ci := 2) (v := .int (nI (c_ct S))) (C := RX2) (T := TX2) (N := 5) hx hb hG inG_X2 hown hK hP 3 (wl_at (by omega) hK0) rfl 4 (by decide) (hG _ g_41) (fun _ h9 => h9) rfl dX3_countsBy_23 ?_
        refine lv_icmp_ge (tgt := 73) hx hb dX3_countsBy_26 (by decide) (fun c26 => ?_) (fun c26 => ?_)
        · have n26 : (c_ct S) ≤ r := (nI_leI (a := (c_ct S)) (b := r) (by omega) (by omega)).mp c26
          refine lv_iconst (v := 1) hx hb dX3_countsBy_73 (by decide) ?_
          have h9 : (1 : Int32) = bI (c_cnt S d i mm) := by unfold c_cnt; rw [n9, show c_ct S = r from by omega, hq]; rfl
          exact W.zret (v := 1) hx hb hr (by first | rfl | exact bI_nar _) (fun t ht _ => ⟨congrArg (fun z => Outcome.returned (some (Value.int z))) h9, ht⟩) (fun _ h => nomatch h) dX3_countsBy_74
        · have n26 : ¬ (c_ct S) ≤ r := fun h => c26 ((nI_leI (a := (c_ct S)) (b := r) (by omega) (by omega)).mpr h)
          refine lv_aload_n hx hb dX3_countsBy_29 rfl (lv_at hl 1 rfl) ?_
          refine va_get (D := D) (ci := 3) (v := .ref (adr 3)) (C := RX3) (T := TX3) (N := 4) hx hb hG inG_X3 hown hK hP 0 (wl_at (by omega) hE0) rfl 2 (by decide) (hG _ g_101) (fun _ h9 => h9) rfl dX3_countsBy_30 ?_
          refine lv_iload_n hx hb dX3_countsBy_33 rfl (lv_at hl 3 rfl) ?_
          refine lv_iload hx hb dX3_countsBy_34 (lv_at hl 0 rfl) ?_
          refine wn_rV (rest := []) hx hb hml hown hG hN hP (cX2_areRivals_r (by omega) hct hK0 hK1 hK2 hK3 hK4 hnm htd (i := i) (j := r) (by omega) (by omega)) (cwV 2 hG (gV g_319 g_320 g_321 g_2 g_322) rfl rfl rfl (by decide +kernel) ⟨Nat.le_of_ble_eq_true rfl, Nat.le_of_ble_eq_true rfl⟩) (by omega) hK0 rfl rfl hl.1 rfl (Nat.le_of_ble_eq_true rfl) dX3_countsBy_36 ⟨Nat.zero_le _, Nat.zero_le _⟩ ?_
          refine lv_if_eq (tgt := 67) hx hb dX3_countsBy_39 (by decide) (fun c39 => ?_) (fun c39 => ?_)
          · have n39 : (c_rv S i r) = false := bI_0.mp c39
            refine lv_iinc (v := nI (r + 1)) (lv' := [(4, .int (nI (r + 1))), (0, .ref (adr 0)), (1, .ref (adr (9 + 2 * d))), (2, .int (nI i)), (3, .int mm)]) hx hb dX3_countsBy_67 hl (k := 0) rfl (nI_1 _) (by decide) rfl (fun ls hl => ?_)
            refine lv_goto (tgt := 17) hx hb dX3_countsBy_70 (by decide) ?_
            exact ih (r + 1) (by omega) (by omega) (by simp only [anB, hq, Bool.false_or]; first | rw [n39, Bool.false_and] | rw [n52, n62, Bool.or_false, Bool.and_false]) ls (lv_sub hl [0, 1, 2, 3, 4] rfl)
          · have n39 : (c_rv S i r) = true := bI_1.mp c39
            refine lv_aload_n hx hb dX3_countsBy_42 rfl (lv_at hl 1 rfl) ?_
            refine va_get (D := D) (ci := 3) (v := .ref (adr 3)) (C := RX3) (T := TX3) (N := 4) hx hb hG inG_X3 hown hK hP 0 (wl_at (by omega) hE0) rfl 2 (by decide) (hG _ g_101) (fun _ h9 => h9) rfl dX3_countsBy_43 ?_
            refine va_get (D := D) (ci := 2) (v := .ref (adr (3 + 4))) (C := RX2) (T := TX2) (N := 5) hx hb hG inG_X2 hown hK hP 3 (wl_at (by omega) hK0) rfl 3 (by decide) (hG _ g_39) (fun _ h9 => h9) rfl dX3_countsBy_46 ?_
            refine lv_iload hx hb dX3_countsBy_49 (lv_at hl 0 rfl) ?_
            refine wn_zald (j := r) hx hb hK hP (by omega) hK4 (by omega) (by decide) dX3_countsBy_51 ?_
            refine lv_if_ne (tgt := 65) hx hb dX3_countsBy_52 (by decide) (fun c52 => ?_) (fun c52 => ?_)
            · have n52 : (c_sd S r) = true := bI_1.mp c52
              refine lv_iconst (v := 0) hx hb dX3_countsBy_65 (by decide) ?_
              have h9 : (0 : Int32) = bI (c_cnt S d i mm) := by unfold c_cnt; rw [n9, anB_hit (P := fun r => c_rv S i r && (c_sd S r || c_had S d r mm)) (i := r) (by simp only [n39, Bool.true_and]; first | (rw [n52]; rfl) | (rw [n62, Bool.or_true])) (by omega)]; rfl
              exact W.zret (v := 0) hx hb hr (by first | rfl | exact bI_nar _) (fun t ht _ => ⟨congrArg (fun z => Outcome.returned (some (Value.int z))) h9, ht⟩) (fun _ h => nomatch h) dX3_countsBy_66
            · have n52 : (c_sd S r) = false := bI_0.mp c52
              refine lv_aload_n hx hb dX3_countsBy_55 rfl (lv_at hl 2 rfl) ?_
              refine lv_iload hx hb dX3_countsBy_56 (lv_at hl 0 rfl) ?_
              refine lv_iload_n hx hb dX3_countsBy_58 rfl (lv_at hl 4 rfl) ?_
              refine wn_rV (rest := []) hx hb hml hown hG hN hP (cX0_hadSeen_r (by omega) hD0 hD1 (j := r) (by omega) mm) (cwV 2 hG (gV g_420 g_421 g_422 g_4 g_423) rfl rfl rfl (by decide +kernel) ⟨Nat.le_of_ble_eq_true rfl, Nat.le_of_ble_eq_true rfl⟩) (by omega) hD0 rfl rfl hl.1 rfl (Nat.le_of_ble_eq_true rfl) dX3_countsBy_59 ⟨Nat.zero_le _, Nat.zero_le _⟩ ?_
              refine lv_if_eq (tgt := 67) hx hb dX3_countsBy_62 (by decide) (fun c62 => ?_) (fun c62 => ?_)
              · have n62 : (c_had S d r mm) = false := bI_0.mp c62
                refine lv_iinc (v := nI (r + 1)) (lv' := [(4, .int (nI (r + 1))), (0, .ref (adr 0)), (1, .ref (adr (9 + 2 * d))), (2, .int (nI i)), (3, .int mm)]) hx hb dX3_countsBy_67 hl (k := 0) rfl (nI_1 _) (by decide) rfl (fun ls hl => ?_)
                refine lv_goto (tgt := 17) hx hb dX3_countsBy_70 (by decide) ?_
                exact ih (r + 1) (by omega) (by omega) (by simp only [anB, hq, Bool.false_or]; first | rw [n39, Bool.false_and] | rw [n52, n62, Bool.or_false, Bool.and_false]) ls (lv_sub hl [0, 1, 2, 3, 4] rfl)
              · have n62 : (c_had S d r mm) = true := bI_1.mp c62
                refine lv_iconst (v := 0) hx hb dX3_countsBy_65 (by decide) ?_
                have h9 : (0 : Int32) = bI (c_cnt S d i mm) := by unfold c_cnt; rw [n9, anB_hit (P := fun r => c_rv S i r && (c_sd S r || c_had S d r mm)) (i := r) (by simp only [n39, Bool.true_and]; first | (rw [n52]; rfl) | (rw [n62, Bool.or_true])) (by omega)]; rfl
                exact W.zret (v := 0) hx hb hr (by first | rfl | exact bI_nar _) (fun t ht _ => ⟨congrArg (fun z => Outcome.returned (some (Value.int z))) h9, ht⟩) (fun _ h => nomatch h) dX3_countsBy_66
    exact L17 (c_ct S + 1) 0 (by omega) (by omega) rfl ls (lv_sub hl [0, 1, 2, 3, 4] rfl)
  · have n9 : (c_sd S i) = true := bI_1.mp c9
    refine lv_iconst (v := 1) hx hb dX3_countsBy_12 (by decide) ?_
    have h9 : (1 : Int32) = bI (c_cnt S d i mm) := by unfold c_cnt; rw [n9]; rfl
    exact W.zret (v := 1) hx hb hr (by first | rfl | exact bI_nar _) (fun t ht _ => ⟨congrArg (fun z => Outcome.returned (some (Value.int z))) h9, ht⟩) (fun _ h => nomatch h) dX3_countsBy_13

set_option maxHeartbeats 4000000 in
set_option maxRecDepth 100000 in
theorem cX3_beginsConflict_r {l : Launch} {D : va_G} {cA : Nat → ClassId} {adr : Nat → Nat} {n : Nat} {E : Nat → va_E} {S : CS} (hn : 30 ≤ n) (hR : Rep cA adr S E) {d : Nat} (hd : d < 3) {i : Nat} (hi : i < 120) : Met l yX3_beginsConflict (.code yX3_beginsConflict cX3_beginsConflict 5 (some .boolean) :: lw_G) ({ frames := 1, cells := 0, slots := 0, locals := 22 } : Room) (va_Pc [.ref (adr 0), .ref (adr (9 + 2 * d)), .int (nI i)] (wdU D (kty cA) adr n E)) (QcRead (bI (c_beg S d i))) 0 0 (fun _ => False) := by
  refine Met.ofW (cc := cX3_beginsConflict) (maxL := 5) (ret := (some .boolean)) (by decide) rfl ?_
  intro p e s m args below meth c s₁ B hml hv
  obtain ⟨rfl, hP, hN⟩ := hv
  have hx := B.exec
  have hb := B.bytes
  have hr := B.returns
  have hG : ∀ w ∈ lw_G, w.before _ s = true := fun w h => atoms_spec (ws := _ :: lw_G) B.pre w (List.mem_cons_of_mem _ h)
  have hown : s.vm.findClass RX3 = some m.cls := findClass_of_methodNamed B.named
  have hlocks := B.notSynchronized
  have hK := hN.1
  have hl := lv_entry ([.ref (adr 0), .ref (adr (9 + 2 * d)), .int (nI i)]) (n := 5) (Nat.le_of_ble_eq_true rfl)
  rw [lg_entry_eq]
  generalize (lg_sl ([.ref (adr 0), .ref (adr (9 + 2 * d)), .int (nI i)]) ++ List.replicate (5 - (lg_sl ([.ref (adr 0), .ref (adr (9 + 2 * d)), .int (nI i)])).length) Slot.unset).toArray = ls at hl ⊢
  have hl : lv_has ls 5 [(0, .ref (adr 0)), (1, .ref (adr (9 + 2 * d))), (2, .int (nI i))] := hl
  obtain ⟨hE0, hE1, hE2, hK0, hK1, hK2, hK3, hK4, ⟨hdv, hE8⟩, hDk, hTl, hct, hnm, htd, hmk, hlf⟩ := id hR
  obtain ⟨hD0, hD1⟩ := hDk d hd
  refine lv_aload_n hx hb dX3_beginsConflict_0 rfl (lv_at hl 0 rfl) ?_
  refine va_get (D := D) (ci := 3) (v := .ref (adr 3)) (C := RX3) (T := TX3) (N := 4) hx hb hG inG_X3 hown hK hP 0 (wl_at (by omega) hE0) rfl 2 (by decide) (hG _ g_101) (fun _ h9 => h9) rfl dX3_beginsConflict_1 ?_
  refine va_get (D := D) (ci := 2) (v := .ref (adr (3 + 4))) (C := RX2) (T := TX2) (N := 5) hx hb hG inG_X2 hown hK hP 3 (wl_at (by omega) hK0) rfl 3 (by decide) (hG _ g_39) (fun _ h9 => h9) rfl dX3_beginsConflict_4 ?_
  refine lv_iload_n hx hb dX3_beginsConflict_7 rfl (lv_at hl 2 rfl) ?_
  refine wn_zald (j := i) hx hb hK hP (by omega) hK4 (by omega) (by decide) dX3_beginsConflict_8 ?_
  refine lv_if_eq (tgt := 14) hx hb dX3_beginsConflict_9 (by decide) (fun c9 => ?_) (fun c9 => ?_)
  · have n9 : (c_sd S i) = false := bI_0.mp c9
    refine lv_iconst (v := 0) hx hb dX3_beginsConflict_14 (by decide) ?_
    refine lv_istore_n (lv' := [(3, .int 0), (0, .ref (adr 0)), (1, .ref (adr (9 + 2 * d))), (2, .int (nI i))]) hx hb dX3_beginsConflict_15 rfl hl (by decide) rfl (fun ls hl => ?_)
    refine lv_iconst (v := 0) hx hb dX3_beginsConflict_16 (by decide) ?_
    refine lv_istore (lv' := [(4, .int 0), (3, .int 0), (0, .ref (adr 0)), (1, .ref (adr (9 + 2 * d))), (2, .int (nI i))]) hx hb dX3_beginsConflict_17 hl (by decide) rfl (fun ls hl => ?_)
    have L19 : ∀ (f : Nat) (r : Nat) (q : Bool), c_ct S - r < f → r ≤ c_ct S → anB (fun r => c_rv S i r && c_see S d r && (decide (r < i) || c_sd S r)) r = false → anB (fun r => c_rv S i r && c_see S d r) r = q → ∀ ls : Array Slot, lv_has ls 5 [(4, .int (nI r)), (3, .int (bI q)), (0, .ref (adr 0)), (1, .ref (adr (9 + 2 * d))), (2, .int (nI i))] → W p l e (headSpec (.code yX3_beginsConflict cX3_beginsConflict 5 (some .boolean) :: lw_G) ({ frames := 1, cells := 0, slots := 0, locals := 22 } : Room)).room s m [.ref (adr 0), .ref (adr (9 + 2 * d)), .int (nI i)].toArray below meth c s.heap [] 0 0 (MQ below (QcRead (bI (c_beg S d i))) [.ref (adr 0), .ref (adr (9 + 2 * d)), .int (nI i)].toArray s 0 0 (fun _ => False)) (F0 m 19 ls []) := by
      intro f
      induction f with
      | zero => intro r q h0; exact absurd h0 (by omega)
      | succ f ih =>
        intro r q hf hr2 hq hz ls hl
        refine lv_iload hx hb dX3_beginsConflict_19 (lv_at hl 0 rfl) ?_
        refine lv_aload_n hx hb dX3_beginsConflict_21 rfl (lv_at hl 2 rfl) ?_
        refine va_get (D := D) (ci := 3) (v := .ref (adr 3)) (C := RX3) (T := TX3) (N := 4) hx hb hG inG_X3 hown hK hP 0 (wl_at (by omega) hE0) rfl 2 (by decide) (hG _ g_101) (fun _ h9 => h9) rfl dX3_beginsConflict_22 ?_
        refine va_get (D := D) (ci := 2) (v := .int (nI (c_ct S))) (C := RX2) (T := TX2) (N := 5) hx hb hG inG_X2 hown hK hP 3 (wl_at (by omega) hK0) rfl 4 (by decide) (hG _ g_41) (fun _ h9 => h9) rfl dX3_beginsConflict_25 ?_
        refine lv_icmp_ge (tgt := 82) hx hb dX3_beginsConflict_28 (by decide) (fun c28 => ?_) (fun c28 => ?_)
        · have n28 : (c_ct S) ≤ r := (nI_leI (a := (c_ct S)) (b := r) (by omega) (by omega)).mp c28
          refine lv_iload_n hx hb dX3_beginsConflict_82 rfl (lv_at hl 1 rfl) ?_
          have h9 : (bI q : Int32) = bI (c_beg S d i) := by unfold c_beg; rw [n9, show c_ct S = r from by omega, hq, hz]; simp
          exact W.zret (v := bI q) hx hb hr (by first | rfl | exact bI_nar _) (fun t ht _ => ⟨congrArg (fun z => Outcome.returned (some (Value.int z))) h9, ht⟩) (fun _ h => nomatch h) dX3_beginsConflict_83
        · have n28 : ¬ (c_ct S) ≤ r := fun h => c28 ((nI_leI (a := (c_ct S)) (b := r) (by omega) (by omega)).mpr h)
          refine lv_aload_n hx hb dX3_beginsConflict_31 rfl (lv_at hl 2 rfl) ?_
          refine va_get (D := D) (ci := 3) (v := .ref (adr 3)) (C := RX3) (T := TX3) (N := 4) hx hb hG inG_X3 hown hK hP 0 (wl_at (by omega) hE0) rfl 2 (by decide) (hG _ g_101) (fun _ h9 => h9) rfl dX3_beginsConflict_32 ?_
          refine lv_iload_n hx hb dX3_beginsConflict_35 rfl (lv_at hl 4 rfl) ?_
          refine lv_iload hx hb dX3_beginsConflict_36 (lv_at hl 0 rfl) ?_
          refine wn_rV (rest := []) hx hb hml hown hG hN hP (cX2_areRivals_r (by omega) hct hK0 hK1 hK2 hK3 hK4 hnm htd (i := i) (j := r) (by omega) (by omega)) (cwV 2 hG (gV g_319 g_320 g_321 g_2 g_322) rfl rfl rfl (by decide +kernel) ⟨Nat.le_of_ble_eq_true rfl, Nat.le_of_ble_eq_true rfl⟩) (by omega) hK0 rfl rfl hl.1 rfl (Nat.le_of_ble_eq_true rfl) dX3_beginsConflict_38 ⟨Nat.zero_le _, Nat.zero_le _⟩ ?_
          refine lv_if_eq (tgt := 76) hx hb dX3_beginsConflict_41 (by decide) (fun c41 => ?_) (fun c41 => ?_)
          · have n41 : (c_rv S i r) = false := bI_0.mp c41
            refine lv_iinc (v := nI (r + 1)) (lv' := [(4, .int (nI (r + 1))), (3, .int (bI q)), (0, .ref (adr 0)), (1, .ref (adr (9 + 2 * d))), (2, .int (nI i))]) hx hb dX3_beginsConflict_76 hl (k := 0) rfl (nI_1 _) (by decide) rfl (fun ls hl => ?_)
            refine lv_goto (tgt := 19) hx hb dX3_beginsConflict_79 (by decide) ?_
            exact ih (r + 1) q (by omega) (by omega) (by simp only [anB, hq, Bool.false_or]; first | (rw [n50]; simp; done) | (rw [n41]; simp; done)) (by simp only [anB, hz]; first | (rw [n50]; simp; done) | (rw [n41]; simp; done)) ls (lv_sub hl [0, 1, 2, 3, 4] rfl)
          · have n41 : (c_rv S i r) = true := bI_1.mp c41
            refine lv_aload_n hx hb dX3_beginsConflict_44 rfl (lv_at hl 3 rfl) ?_
            refine lv_iload hx hb dX3_beginsConflict_45 (lv_at hl 0 rfl) ?_
            refine wn_rV (rest := []) hx hb hml hown hG hN hP (cX0_hasSeen_r (by omega) hD0 hD1 (j := r) (by omega)) (cwV 1 hG (gV g_343 g_344 g_345 g_4 g_346) rfl rfl rfl (by decide +kernel) ⟨Nat.le_of_ble_eq_true rfl, Nat.le_of_ble_eq_true rfl⟩) (by omega) hD0 rfl rfl hl.1 rfl (Nat.le_of_ble_eq_true rfl) dX3_beginsConflict_47 ⟨Nat.zero_le _, Nat.zero_le _⟩ ?_
            refine lv_if_eq (tgt := 76) hx hb dX3_beginsConflict_50 (by decide) (fun c50 => ?_) (fun c50 => ?_)
            · have n50 : (c_see S d r) = false := bI_0.mp c50
              refine lv_iinc (v := nI (r + 1)) (lv' := [(4, .int (nI (r + 1))), (3, .int (bI q)), (0, .ref (adr 0)), (1, .ref (adr (9 + 2 * d))), (2, .int (nI i))]) hx hb dX3_beginsConflict_76 hl (k := 0) rfl (nI_1 _) (by decide) rfl (fun ls hl => ?_)
              refine lv_goto (tgt := 19) hx hb dX3_beginsConflict_79 (by decide) ?_
              exact ih (r + 1) q (by omega) (by omega) (by simp only [anB, hq, Bool.false_or]; first | (rw [n50]; simp; done) | (rw [n41]; simp; done)) (by simp only [anB, hz]; first | (rw [n50]; simp; done) | (rw [n41]; simp; done)) ls (lv_sub hl [0, 1, 2, 3, 4] rfl)
            · have n50 : (c_see S d r) = true := bI_1.mp c50
              refine lv_iload hx hb dX3_beginsConflict_53 (lv_at hl 0 rfl) ?_
              refine lv_iload_n hx hb dX3_beginsConflict_55 rfl (lv_at hl 4 rfl) ?_
              refine lv_icmp_lt (tgt := 72) hx hb dX3_beginsConflict_56 (by decide) (fun c56 => ?_) (fun c56 => ?_)
              · have n56 : r < i := (nI_ltI (a := r) (b := i) (by omega) (by omega)).mp c56
                refine lv_iconst (v := 0) hx hb dX3_beginsConflict_72 (by decide) ?_
                have h9 : (0 : Int32) = bI (c_beg S d i) := by unfold c_beg; rw [n9, anB_hit (P := fun r => c_rv S i r && c_see S d r && (decide (r < i) || c_sd S r)) (i := r) (by simp only [n41, n50, Bool.true_and]; first | (rw [show decide (r < i) = true from by simpa using n56]; rfl) | (rw [n69, Bool.or_true])) (by omega)]; rfl
                exact W.zret (v := 0) hx hb hr (by first | rfl | exact bI_nar _) (fun t ht _ => ⟨congrArg (fun z => Outcome.returned (some (Value.int z))) h9, ht⟩) (fun _ h => nomatch h) dX3_beginsConflict_73
              · have n56 : ¬ r < i := fun h => c56 ((nI_ltI (a := r) (b := i) (by omega) (by omega)).mpr h)
                refine lv_aload_n hx hb dX3_beginsConflict_59 rfl (lv_at hl 2 rfl) ?_
                refine va_get (D := D) (ci := 3) (v := .ref (adr 3)) (C := RX3) (T := TX3) (N := 4) hx hb hG inG_X3 hown hK hP 0 (wl_at (by omega) hE0) rfl 2 (by decide) (hG _ g_101) (fun _ h9 => h9) rfl dX3_beginsConflict_60 ?_
                refine va_get (D := D) (ci := 2) (v := .ref (adr (3 + 4))) (C := RX2) (T := TX2) (N := 5) hx hb hG inG_X2 hown hK hP 3 (wl_at (by omega) hK0) rfl 3 (by decide) (hG _ g_39) (fun _ h9 => h9) rfl dX3_beginsConflict_63 ?_
                refine lv_iload hx hb dX3_beginsConflict_66 (lv_at hl 0 rfl) ?_
                refine wn_zald (j := r) hx hb hK hP (by omega) hK4 (by omega) (by decide) dX3_beginsConflict_68 ?_
                refine lv_if_eq (tgt := 74) hx hb dX3_beginsConflict_69 (by decide) (fun c69 => ?_) (fun c69 => ?_)
                · have n69 : (c_sd S r) = false := bI_0.mp c69
                  refine lv_iconst (v := 1) hx hb dX3_beginsConflict_74 (by decide) ?_
                  refine lv_istore_n (lv' := [(3, .int 1), (4, .int (nI r)), (0, .ref (adr 0)), (1, .ref (adr (9 + 2 * d))), (2, .int (nI i))]) hx hb dX3_beginsConflict_75 rfl hl (by decide) rfl (fun ls hl => ?_)
                  refine lv_iinc (v := nI (r + 1)) (lv' := [(4, .int (nI (r + 1))), (3, .int 1), (0, .ref (adr 0)), (1, .ref (adr (9 + 2 * d))), (2, .int (nI i))]) hx hb dX3_beginsConflict_76 hl (k := 1) rfl (nI_1 _) (by decide) rfl (fun ls hl => ?_)
                  refine lv_goto (tgt := 19) hx hb dX3_beginsConflict_79 (by decide) ?_
                  exact ih (r + 1) true (by omega) (by omega) (by simp only [anB, hq, Bool.false_or]; rw [show decide (r < i) = false from by simpa using n56, n69]; simp) (by simp only [anB]; rw [n41, n50]; simp) ls (lv_sub hl [0, 1, 2, 3, 4] rfl)
                · have n69 : (c_sd S r) = true := bI_1.mp c69
                  refine lv_iconst (v := 0) hx hb dX3_beginsConflict_72 (by decide) ?_
                  have h9 : (0 : Int32) = bI (c_beg S d i) := by unfold c_beg; rw [n9, anB_hit (P := fun r => c_rv S i r && c_see S d r && (decide (r < i) || c_sd S r)) (i := r) (by simp only [n41, n50, Bool.true_and]; first | (rw [show decide (r < i) = true from by simpa using n56]; rfl) | (rw [n69, Bool.or_true])) (by omega)]; rfl
                  exact W.zret (v := 0) hx hb hr (by first | rfl | exact bI_nar _) (fun t ht _ => ⟨congrArg (fun z => Outcome.returned (some (Value.int z))) h9, ht⟩) (fun _ h => nomatch h) dX3_beginsConflict_73
    exact L19 (c_ct S + 1) 0 false (by omega) (by omega) rfl rfl ls (lv_sub hl [0, 1, 2, 3, 4] rfl)
  · have n9 : (c_sd S i) = true := bI_1.mp c9
    refine lv_iconst (v := 0) hx hb dX3_beginsConflict_12 (by decide) ?_
    have h9 : (0 : Int32) = bI (c_beg S d i) := by unfold c_beg; rw [n9]; rfl
    exact W.zret (v := 0) hx hb hr (by first | rfl | exact bI_nar _) (fun t ht _ => ⟨congrArg (fun z => Outcome.returned (some (Value.int z))) h9, ht⟩) (fun _ h => nomatch h) dX3_beginsConflict_13

set_option maxHeartbeats 4000000 in
set_option maxRecDepth 100000 in
theorem cX3_findLast_r {l : Launch} {D : va_G} {cA : Nat → ClassId} {adr : Nat → Nat} {n : Nat} {E : Nat → va_E} {S : CS} (hn : 30 ≤ n) (hR : Rep cA adr S E) {d : Nat} (hd : d < 3) {key : Nat} (hky : key < 8) (mm : Int32) : Met l yX3_findLast (.code yX3_findLast cX3_findLast 6 (some .int) :: lw_G) ({ frames := 4, cells := 0, slots := 0, locals := 94 } : Room) (va_Pc [.ref (adr 0), .ref (adr (9 + 2 * d)), .int (nI key), .int mm] (wdU D (kty cA) adr n E)) (QcRead (oI (c_lst S d key mm))) 0 0 (fun _ => False) := by
  refine Met.ofW (cc := cX3_findLast) (maxL := 6) (ret := (some .int)) (by decide) rfl ?_
  intro p e s m args below meth c s₁ B hml hv
  obtain ⟨rfl, hP, hN⟩ := hv
  have hx := B.exec
  have hb := B.bytes
  have hr := B.returns
  have hG : ∀ w ∈ lw_G, w.before _ s = true := fun w h => atoms_spec (ws := _ :: lw_G) B.pre w (List.mem_cons_of_mem _ h)
  have hown : s.vm.findClass RX3 = some m.cls := findClass_of_methodNamed B.named
  have hlocks := B.notSynchronized
  have hK := hN.1
  have hl := lv_entry ([.ref (adr 0), .ref (adr (9 + 2 * d)), .int (nI key), .int mm]) (n := 6) (Nat.le_of_ble_eq_true rfl)
  rw [lg_entry_eq]
  generalize (lg_sl ([.ref (adr 0), .ref (adr (9 + 2 * d)), .int (nI key), .int mm]) ++ List.replicate (6 - (lg_sl ([.ref (adr 0), .ref (adr (9 + 2 * d)), .int (nI key), .int mm])).length) Slot.unset).toArray = ls at hl ⊢
  have hl : lv_has ls 6 [(0, .ref (adr 0)), (1, .ref (adr (9 + 2 * d))), (2, .int (nI key)), (3, .int mm)] := hl
  obtain ⟨hE0, hE1, hE2, hK0, hK1, hK2, hK3, hK4, ⟨hdv, hE8⟩, hDk, hTl, hct, hnm, htd, hmk, hlf⟩ := id hR
  obtain ⟨hD0, hD1⟩ := hDk d hd
  refine lv_iconst (v := (-1)) hx hb dX3_findLast_0 (by decide) ?_
  refine lv_istore (lv' := [(4, .int (-1)), (0, .ref (adr 0)), (1, .ref (adr (9 + 2 * d))), (2, .int (nI key)), (3, .int mm)]) hx hb dX3_findLast_1 hl (by decide) rfl (fun ls hl => ?_)
  refine lv_iconst (v := 0) hx hb dX3_findLast_3 (by decide) ?_
  refine lv_istore (lv' := [(5, .int 0), (4, .int (-1)), (0, .ref (adr 0)), (1, .ref (adr (9 + 2 * d))), (2, .int (nI key)), (3, .int mm)]) hx hb dX3_findLast_4 hl (by decide) rfl (fun ls hl => ?_)
  have L6 : ∀ (f : Nat) (i : Nat) (b : Option Nat), c_ct S - i < f → i ≤ c_ct S → lsB (fun i => decide (c_td S i / 2 ^ 20 % 8 = key) && c_had S d i mm && c_cnt S d i mm) (c_ltr S) i = b → ∀ ls : Array Slot, lv_has ls 6 [(5, .int (nI i)), (4, .int (oI b)), (0, .ref (adr 0)), (1, .ref (adr (9 + 2 * d))), (2, .int (nI key)), (3, .int mm)] → W p l e (headSpec (.code yX3_findLast cX3_findLast 6 (some .int) :: lw_G) ({ frames := 4, cells := 0, slots := 0, locals := 94 } : Room)).room s m [.ref (adr 0), .ref (adr (9 + 2 * d)), .int (nI key), .int mm].toArray below meth c s.heap [] 0 0 (MQ below (QcRead (oI (c_lst S d key mm))) [.ref (adr 0), .ref (adr (9 + 2 * d)), .int (nI key), .int mm].toArray s 0 0 (fun _ => False)) (F0 m 6 ls []) := by
    intro f
    induction f with
    | zero => intro i b h0; exact absurd h0 (by omega)
    | succ f ih =>
      intro i b hf hi hq ls hl
      refine lv_iload hx hb dX3_findLast_6 (lv_at hl 0 rfl) ?_
      refine lv_aload_n hx hb dX3_findLast_8 rfl (lv_at hl 2 rfl) ?_
      refine va_get (D := D) (ci := 3) (v := .ref (adr 3)) (C := RX3) (T := TX3) (N := 4) hx hb hG inG_X3 hown hK hP 0 (wl_at (by omega) hE0) rfl 2 (by decide) (hG _ g_101) (fun _ h9 => h9) rfl dX3_findLast_9 ?_
      refine va_get (D := D) (ci := 2) (v := .int (nI (c_ct S))) (C := RX2) (T := TX2) (N := 5) hx hb hG inG_X2 hown hK hP 3 (wl_at (by omega) hK0) rfl 4 (by decide) (hG _ g_41) (fun _ h9 => h9) rfl dX3_findLast_12 ?_
      refine lv_icmp_ge (tgt := 79) hx hb dX3_findLast_15 (by decide) (fun c15 => ?_) (fun c15 => ?_)
      · have n15 : (c_ct S) ≤ i := (nI_leI (a := (c_ct S)) (b := i) (by omega) (by omega)).mp c15
        refine lv_iload hx hb dX3_findLast_79 (lv_at hl 1 rfl) ?_
        have h9 : (oI b : Int32) = oI (c_lst S d key mm) := by unfold c_lst; rw [show c_ct S = i from by omega, hq]
        exact W.iret (v := oI b) hx hb hr (fun t ht _ => ⟨congrArg (fun z => Outcome.returned (some (Value.int z))) h9, ht⟩) (fun _ h => nomatch h) dX3_findLast_81
      · have n15 : ¬ (c_ct S) ≤ i := fun h => c15 ((nI_leI (a := (c_ct S)) (b := i) (by omega) (by omega)).mpr h)
        have b2 := htd i
        refine lv_aload_n hx hb dX3_findLast_18 rfl (lv_at hl 2 rfl) ?_
        refine va_get (D := D) (ci := 3) (v := .ref (adr 3)) (C := RX3) (T := TX3) (N := 4) hx hb hG inG_X3 hown hK hP 0 (wl_at (by omega) hE0) rfl 2 (by decide) (hG _ g_101) (fun _ h9 => h9) rfl dX3_findLast_19 ?_
        refine lv_iload hx hb dX3_findLast_22 (lv_at hl 0 rfl) ?_
        refine wn_rV (rest := []) hx hb hml hown hG hN hP (cX2_key_r (by omega) hct hK0 hK1 hK2 hK3 hK4 hnm htd (i := i) (by omega)) (cwV 1 hG (gV g_413 g_414 g_415 g_2 g_416) rfl rfl rfl (by decide +kernel) ⟨Nat.le_of_ble_eq_true rfl, Nat.le_of_ble_eq_true rfl⟩) (by omega) hK0 rfl rfl hl.1 rfl (Nat.le_of_ble_eq_true rfl) dX3_findLast_24 ⟨Nat.zero_le _, Nat.zero_le _⟩ ?_
        refine lv_iload_n hx hb dX3_findLast_27 rfl (lv_at hl 4 rfl) ?_
        refine lv_icmp_ne (tgt := 73) hx hb dX3_findLast_28 (by decide) (fun c28 => ?_) (fun c28 => ?_)
        · have n28 : ¬ (c_td S i / 2 ^ 20 % 8) = key := fun h => c28 ((nI_eq (a := (c_td S i / 2 ^ 20 % 8)) (b := key) (by omega) (by omega)).mpr h)
          refine lv_iinc (v := nI (i + 1)) (lv' := [(5, .int (nI (i + 1))), (4, .int (oI b)), (0, .ref (adr 0)), (1, .ref (adr (9 + 2 * d))), (2, .int (nI key)), (3, .int mm)]) hx hb dX3_findLast_73 hl (k := 0) rfl (nI_1 _) (by decide) rfl (fun ls hl => ?_)
          refine lv_goto (tgt := 6) hx hb dX3_findLast_76 (by decide) ?_
          exact ih (i + 1) b (by omega) (by omega) (by simp only [lsB, hq]; first | (rw [n38, Bool.and_false]; rfl) | (rw [show decide (c_td S i / 2 ^ 20 % 8 = key) = false from by simpa using n28]; rfl)) ls (lv_sub hl [0, 1, 2, 3, 4, 5] rfl)
        · have n28 : (c_td S i / 2 ^ 20 % 8) = key := (nI_eq (a := (c_td S i / 2 ^ 20 % 8)) (b := key) (by omega) (by omega)).mp c28
          refine lv_aload_n hx hb dX3_findLast_31 rfl (lv_at hl 3 rfl) ?_
          refine lv_iload hx hb dX3_findLast_32 (lv_at hl 0 rfl) ?_
          refine lv_iload_n hx hb dX3_findLast_34 rfl (lv_at hl 5 rfl) ?_
          refine wn_rV (rest := []) hx hb hml hown hG hN hP (cX0_hadSeen_r (by omega) hD0 hD1 (j := i) (by omega) mm) (cwV 2 hG (gV g_420 g_421 g_422 g_4 g_423) rfl rfl rfl (by decide +kernel) ⟨Nat.le_of_ble_eq_true rfl, Nat.le_of_ble_eq_true rfl⟩) (by omega) hD0 rfl rfl hl.1 rfl (Nat.le_of_ble_eq_true rfl) dX3_findLast_35 ⟨Nat.zero_le _, Nat.zero_le _⟩ ?_
          refine lv_if_eq (tgt := 73) hx hb dX3_findLast_38 (by decide) (fun c38 => ?_) (fun c38 => ?_)
          · have n38 : (c_had S d i mm) = false := bI_0.mp c38
            refine lv_iinc (v := nI (i + 1)) (lv' := [(5, .int (nI (i + 1))), (4, .int (oI b)), (0, .ref (adr 0)), (1, .ref (adr (9 + 2 * d))), (2, .int (nI key)), (3, .int mm)]) hx hb dX3_findLast_73 hl (k := 0) rfl (nI_1 _) (by decide) rfl (fun ls hl => ?_)
            refine lv_goto (tgt := 6) hx hb dX3_findLast_76 (by decide) ?_
            exact ih (i + 1) b (by omega) (by omega) (by simp only [lsB, hq]; first | (rw [n38, Bool.and_false]; rfl) | (rw [show decide (c_td S i / 2 ^ 20 % 8 = key) = false from by simpa using n28]; rfl)) ls (lv_sub hl [0, 1, 2, 3, 4, 5] rfl)
          · have n38 : (c_had S d i mm) = true := bI_1.mp c38
            refine lv_iload hx hb dX3_findLast_41 (lv_at hl 1 rfl) ?_
            refine lv_iconst (v := (-1)) hx hb dX3_findLast_43 (by decide) ?_
            refine lv_icmp_eq (tgt := 58) hx hb dX3_findLast_44 (by decide) (fun c44 => ?_) (fun c44 => ?_)
            · have hbn : b = none := (oI_n1 (fun z hz => by subst hz; have := lsB_lt hq; omega)).mp c44
              subst hbn
              have n55 : ∀ z, (none : Option Nat) = some z → c_ltr S i z = true := fun z h => nomatch h
              refine lv_aload_n hx hb dX3_findLast_58 rfl (lv_at hl 2 rfl) ?_
              refine lv_aload_n hx hb dX3_findLast_59 rfl (lv_at hl 3 rfl) ?_
              refine lv_iload hx hb dX3_findLast_60 (lv_at hl 0 rfl) ?_
              refine lv_iload_n hx hb dX3_findLast_62 rfl (lv_at hl 5 rfl) ?_
              refine wn_rV (rest := []) hx hb hml hown hG hN hP (cX3_countsBy_r hn hR hd (i := i) (by omega) mm) (cwV 3 hG (gV g_450 g_452 gp_X3_countsBy g_1 g_453) rfl rfl rfl (by decide +kernel) ⟨Nat.le_of_ble_eq_true rfl, Nat.le_of_ble_eq_true rfl⟩) (by omega) hE0 rfl rfl hl.1 rfl (Nat.le_of_ble_eq_true rfl) dX3_findLast_63 ⟨Nat.zero_le _, Nat.zero_le _⟩ ?_
              refine lv_if_eq (tgt := 73) hx hb dX3_findLast_66 (by decide) (fun c66 => ?_) (fun c66 => ?_)
              · have n66 : (c_cnt S d i mm) = false := bI_0.mp c66
                refine lv_iinc (v := nI (i + 1)) (lv' := [(5, .int (nI (i + 1))), (4, .int (oI none)), (0, .ref (adr 0)), (1, .ref (adr (9 + 2 * d))), (2, .int (nI key)), (3, .int mm)]) hx hb dX3_findLast_73 hl (k := 0) rfl (nI_1 _) (by decide) rfl (fun ls hl => ?_)
                refine lv_goto (tgt := 6) hx hb dX3_findLast_76 (by decide) ?_
                exact ih (i + 1) none (by omega) (by omega) (by simp only [lsB, hq]; rw [n66, Bool.and_false]; rfl) ls (lv_sub hl [0, 1, 2, 3, 4, 5] rfl)
              · have n66 : (c_cnt S d i mm) = true := bI_1.mp c66
                refine lv_iload hx hb dX3_findLast_69 (lv_at hl 0 rfl) ?_
                refine lv_istore (lv' := [(4, .int (nI i)), (5, .int (nI i)), (0, .ref (adr 0)), (1, .ref (adr (9 + 2 * d))), (2, .int (nI key)), (3, .int mm)]) hx hb dX3_findLast_71 hl (by decide) rfl (fun ls hl => ?_)
                refine lv_iinc (v := nI (i + 1)) (lv' := [(5, .int (nI (i + 1))), (4, .int (nI i)), (0, .ref (adr 0)), (1, .ref (adr (9 + 2 * d))), (2, .int (nI key)), (3, .int mm)]) hx hb dX3_findLast_73 hl (k := 1) rfl (nI_1 _) (by decide) rfl (fun ls hl => ?_)
                refine lv_goto (tgt := 6) hx hb dX3_findLast_76 (by decide) ?_
                exact ih (i + 1) (some i) (by omega) (by omega) (by simp only [lsB, hq]; rw [show decide (c_td S i / 2 ^ 20 % 8 = key) = true from by simpa using n28, n38, n66]; rfl) ls (lv_sub hl [0, 1, 2, 3, 4, 5] rfl)
            · obtain ⟨z, hz⟩ : ∃ z, b = some z := by cases b with | none => exact absurd rfl c44 | some z => exact ⟨z, rfl⟩
              subst hz
              have bz := lsB_lt hq
              refine lv_aload_n hx hb dX3_findLast_47 rfl (lv_at hl 2 rfl) ?_
              refine lv_iload hx hb dX3_findLast_48 (lv_at hl 0 rfl) ?_
              refine lv_iload hx hb dX3_findLast_50 (lv_at hl 1 rfl) ?_
              refine wn_rV (rest := []) hx hb hml hown hG hN hP (cX3_isLater_r hn hR (i := i) (j := z) (by omega) (by omega)) (cwV 2 hG (gV g_424 g_426 gp_X3_isLater g_1 g_427) rfl rfl rfl (by decide +kernel) ⟨Nat.le_of_ble_eq_true rfl, Nat.le_of_ble_eq_true rfl⟩) (by omega) hE0 rfl rfl hl.1 rfl (Nat.le_of_ble_eq_true rfl) dX3_findLast_52 ⟨Nat.zero_le _, Nat.zero_le _⟩ ?_
              refine lv_if_eq (tgt := 73) hx hb dX3_findLast_55 (by decide) (fun c55 => ?_) (fun c55 => ?_)
              · have n55 : (c_ltr S i z) = false := bI_0.mp c55
                refine lv_iinc (v := nI (i + 1)) (lv' := [(5, .int (nI (i + 1))), (4, .int (nI z)), (0, .ref (adr 0)), (1, .ref (adr (9 + 2 * d))), (2, .int (nI key)), (3, .int mm)]) hx hb dX3_findLast_73 hl (k := 0) rfl (nI_1 _) (by decide) rfl (fun ls hl => ?_)
                refine lv_goto (tgt := 6) hx hb dX3_findLast_76 (by decide) ?_
                exact ih (i + 1) (some z) (by omega) (by omega) (by simp only [lsB, hq]; first | (rw [n66, Bool.and_false]; rfl) | (rw [n55, Bool.and_false]; rfl)) ls (lv_sub hl [0, 1, 2, 3, 4, 5] rfl)
              · have n55 : (c_ltr S i z) = true := bI_1.mp c55
                have n55 : ∀ z', some z = some z' → c_ltr S i z' = true := fun z' h => by cases h; exact n55
                refine lv_aload_n hx hb dX3_findLast_58 rfl (lv_at hl 2 rfl) ?_
                refine lv_aload_n hx hb dX3_findLast_59 rfl (lv_at hl 3 rfl) ?_
                refine lv_iload hx hb dX3_findLast_60 (lv_at hl 0 rfl) ?_
                refine lv_iload_n hx hb dX3_findLast_62 rfl (lv_at hl 5 rfl) ?_
                refine wn_rV (rest := []) hx hb hml hown hG hN hP (cX3_countsBy_r hn hR hd (i := i) (by omega) mm) (cwV 3 hG (gV g_450 g_452 gp_X3_countsBy g_1 g_453) rfl rfl rfl (by decide +kernel) ⟨Nat.le_of_ble_eq_true rfl, Nat.le_of_ble_eq_true rfl⟩) (by omega) hE0 rfl rfl hl.1 rfl (Nat.le_of_ble_eq_true rfl) dX3_findLast_63 ⟨Nat.zero_le _, Nat.zero_le _⟩ ?_
                refine lv_if_eq (tgt := 73) hx hb dX3_findLast_66 (by decide) (fun c66 => ?_) (fun c66 => ?_)
                · have n66 : (c_cnt S d i mm) = false := bI_0.mp c66
                  refine lv_iinc (v := nI (i + 1)) (lv' := [(5, .int (nI (i + 1))), (4, .int (nI z)), (0, .ref (adr 0)), (1, .ref (adr (9 + 2 * d))), (2, .int (nI key)), (3, .int mm)]) hx hb dX3_findLast_73 hl (k := 0) rfl (nI_1 _) (by decide) rfl (fun ls hl => ?_)
                  refine lv_goto (tgt := 6) hx hb dX3_findLast_76 (by decide) ?_
                  exact ih (i + 1) (some z) (by omega) (by omega) (by simp only [lsB, hq]; first | (rw [n66, Bool.and_false]; rfl) | (rw [n55, Bool.and_false]; rfl)) ls (lv_sub hl [0, 1, 2, 3, 4, 5] rfl)
                · have n66 : (c_cnt S d i mm) = true := bI_1.mp c66
                  refine lv_iload hx hb dX3_findLast_69 (lv_at hl 0 rfl) ?_
                  refine lv_istore (lv' := [(4, .int (nI i)), (5, .int (nI i)), (0, .ref (adr 0)), (1, .ref (adr (9 + 2 * d))), (2, .int (nI key)), (3, .int mm)]) hx hb dX3_findLast_71 hl (by decide) rfl (fun ls hl => ?_)
                  refine lv_iinc (v := nI (i + 1)) (lv' := [(5, .int (nI (i + 1))), (4, .int (nI i)), (0, .ref (adr 0)), (1, .ref (adr (9 + 2 * d))), (2, .int (nI key)), (3, .int mm)]) hx hb dX3_findLast_73 hl (k := 1) rfl (nI_1 _) (by decide) rfl (fun ls hl => ?_)
                  refine lv_goto (tgt := 6) hx hb dX3_findLast_76 (by decide) ?_
                  exact ih (i + 1) (some i) (by omega) (by omega) (by simp only [lsB, hq]; rw [show decide (c_td S i / 2 ^ 20 % 8 = key) = true from by simpa using n28, n38, n66, n55 z rfl]; rfl) ls (lv_sub hl [0, 1, 2, 3, 4, 5] rfl)
  exact L6 (c_ct S + 1) 0 none (by omega) (by omega) rfl ls (lv_sub hl [0, 1, 2, 3, 4, 5] rfl)
