theorem one_le (x : Int32) : (1 : Int32) ≤ x ↔ 0 < x := by
  rw [Int32.le_iff_toInt_le, Int32.lt_iff_toInt_lt]
  have h1 : (1 : Int32).toInt = 1 := by decide
  have h0 : (0 : Int32).toInt = 0 := by decide
  rw [h1, h0]; omega
theorem repm_th {cA : Nat → ClassId} {adr : Nat → Nat} {S : CS} {th th2 : Int32} {E E2 : Nat → va_E} (hR : RepM cA adr S th E) (h0 : E2 30 = .inr (4, [.int th2, .ref (adr 31), .ref (adr 32), .ref (adr 33), .ref (adr 34), .int (nI (c_ct S)), .ref (adr 35), .ref (adr 36), .ref (adr 37), .ref (adr 38), .ref (adr 39), .ref (adr 40), .ref (adr 41), .ref (adr 42), .ref (adr 43), .ref (adr 44)])) (hF : ∀ j, j ≠ 30 → E2 j = E j) : RepM cA adr S th2 E2 := by
  obtain ⟨hM0, hM1, hM2, hM3, hM4, hM5, hM6, hM7, hM8, hM9, hM10, hM11, hM12, hM13, hM14⟩ := hR
  exact ⟨h0, (hF 31 (by omega)).trans hM1, (hF 32 (by omega)).trans hM2, (hF 33 (by omega)).trans hM3, (hF 34 (by omega)).trans hM4, (hF 35 (by omega)).trans hM5, (hF 36 (by omega)).trans hM6, (hF 37 (by omega)).trans hM7, (hF 38 (by omega)).trans hM8, (hF 39 (by omega)).trans hM9, (hF 40 (by omega)).trans hM10, (hF 41 (by omega)).trans hM11, (hF 42 (by omega)).trans hM12, (hF 43 (by omega)).trans hM13, (hF 44 (by omega)).trans hM14⟩
set_option maxHeartbeats 4000000 in
set_option maxRecDepth 100000 in
theorem cX4_thrown_r {l : Launch} {D : va_G} {cA : Nat → ClassId} {adr : Nat → Nat} {n : Nat} {E : Nat → va_E} {S : CS} {th : Int32} (hn : 45 ≤ n) (hV : Inv S) (hR : RepM cA adr S th E) : Met l yX4_thrown (.code yX4_thrown cX4_thrown 1 (some .int) :: lw_G) ({ frames := 0, cells := 0, slots := 0, locals := 0 } : Room) (va_Pc [.ref (adr 30)] (wdU D (kty cA) adr n E)) (QcRead (th)) 0 0 (fun _ => False) := by
  refine Met.ofW (cc := cX4_thrown) (maxL := 1) (ret := (some .int)) (by decide) rfl ?_
  intro p e s m args below meth c s₁ B hml hv
  obtain ⟨rfl, hP, hN⟩ := hv
  have hx := B.exec
  have hb := B.bytes
  have hr := B.returns
  have hG : ∀ w ∈ lw_G, w.before _ s = true := fun w h => atoms_spec (ws := _ :: lw_G) B.pre w (List.mem_cons_of_mem _ h)
  have hown : s.vm.findClass RX4 = some m.cls := findClass_of_methodNamed B.named
  have hlocks := B.notSynchronized
  have hK := hN.1
  have hl := lv_entry ([.ref (adr 30)]) (n := 1) (Nat.le_of_ble_eq_true rfl)
  rw [lg_entry_eq]
  generalize (lg_sl ([.ref (adr 30)]) ++ List.replicate (1 - (lg_sl ([.ref (adr 30)])).length) Slot.unset).toArray = ls at hl ⊢
  have hl : lv_has ls 1 [(0, .ref (adr 30))] := hl
  obtain ⟨hM0, hM1, hM2, hM3, hM4, hM5, hM6, hM7, hM8, hM9, hM10, hM11, hM12, hM13, hM14⟩ := id hR
  refine lv_aload_n hx hb dX4_thrown_0 rfl (lv_at hl 0 rfl) ?_
  refine va_get (D := D) (ci := 4) (v := .int th) (C := RX4) (T := TX4) (N := 16) hx hb hG inG_X4 hown hK hP 30 (wl_at (by omega) hM0) rfl 0 (by decide) (hG _ g_493) (fun _ h9 => h9) rfl dX4_thrown_1 ?_
  have h9 : (th : Int32) = th := rfl
  exact W.iret (v := th) hx hb hr (fun t ht _ => ⟨congrArg (fun z => Outcome.returned (some (Value.int z))) h9, ht⟩) (fun _ h => nomatch h) dX4_thrown_4

set_option maxHeartbeats 4000000 in
set_option maxRecDepth 100000 in
theorem cX4_in_r {l : Launch} (v : Int64) (a b : Int32) : Met l yX4_in (.code yX4_in cX4_in 4 (some .boolean) :: lw_G) ({ frames := 0, cells := 0, slots := 0, locals := 0 } : Room) (va_Pc [.long v, .int a, .int b] (fun _ => True)) (QcRead (bI (decide (a.toInt64 ≤ v) && decide (v ≤ b.toInt64)))) 0 0 (fun _ => False) := by
  refine Met.ofW (cc := cX4_in) (maxL := 4) (ret := (some .boolean)) (by decide) rfl ?_
  intro p e s m args below meth c s₁ B hml hv
  obtain ⟨rfl, -⟩ := hv
  have hx := B.exec
  have hb := B.bytes
  have hr := B.returns
  have hG : ∀ w ∈ lw_G, w.before _ s = true := fun w h => atoms_spec (ws := _ :: lw_G) B.pre w (List.mem_cons_of_mem _ h)
  have hown : s.vm.findClass RX4 = some m.cls := findClass_of_methodNamed B.named
  have hlocks := B.notSynchronized
  have hl := lv_entry ([.long v, .int a, .int b]) (n := 4) (Nat.le_of_ble_eq_true rfl)
  rw [lg_entry_eq]
  generalize (lg_sl ([.long v, .int a, .int b]) ++ List.replicate (4 - (lg_sl ([.long v, .int a, .int b])).length) Slot.unset).toArray = ls at hl ⊢
  have hl : lv_has ls 4 [(0, .long v), (2, .int a), (3, .int b)] := hl
  refine lv_lload_n hx hb dX4_in_0 rfl (lv_at hl 0 rfl) ?_
  refine lv_iload_n hx hb dX4_in_1 rfl (lv_at hl 1 rfl) ?_
  refine lv_i2l (v := a.toInt64) hx hb dX4_in_2 rfl ?_
  refine W.lcmp hx hb dX4_in_3 ?_
  refine lv_if_lt (tgt := 18) hx hb dX4_in_4 (by decide) (fun c4 => ?_) (fun c4 => ?_)
  · have e4 : ¬ a.toInt64 ≤ v := by rw [lg_cmp_lt] at c4; exact Int64.not_le.mpr c4
    refine lv_iconst (v := 0) hx hb dX4_in_18 (by decide) ?_
    have h9 : (0 : Int32) = bI (decide (a.toInt64 ≤ v) && decide (v ≤ b.toInt64)) := by first | (rw [decide_eq_false e4]; rfl) | (rw [decide_eq_false e11, Bool.and_false]; rfl)
    exact W.zret (v := 0) hx hb hr (by first | rfl | exact bI_nar _) (fun t ht _ => ⟨congrArg (fun z => Outcome.returned (some (Value.int z))) h9, ht⟩) (fun _ h => nomatch h) dX4_in_19
  · have e4 : a.toInt64 ≤ v := by rw [lg_cmp_lt] at c4; exact Int64.not_lt.mp c4
    refine lv_lload_n hx hb dX4_in_7 rfl (lv_at hl 0 rfl) ?_
    refine lv_iload_n hx hb dX4_in_8 rfl (lv_at hl 2 rfl) ?_
    refine lv_i2l (v := b.toInt64) hx hb dX4_in_9 rfl ?_
    refine W.lcmp hx hb dX4_in_10 ?_
    refine lv_if_gt (tgt := 18) hx hb dX4_in_11 (by decide) (fun c11 => ?_) (fun c11 => ?_)
    · have e11 : ¬ v ≤ b.toInt64 := by rw [lg_cmp_gt] at c11; exact Int64.not_le.mpr c11
      refine lv_iconst (v := 0) hx hb dX4_in_18 (by decide) ?_
      have h9 : (0 : Int32) = bI (decide (a.toInt64 ≤ v) && decide (v ≤ b.toInt64)) := by first | (rw [decide_eq_false e4]; rfl) | (rw [decide_eq_false e11, Bool.and_false]; rfl)
      exact W.zret (v := 0) hx hb hr (by first | rfl | exact bI_nar _) (fun t ht _ => ⟨congrArg (fun z => Outcome.returned (some (Value.int z))) h9, ht⟩) (fun _ h => nomatch h) dX4_in_19
    · have e11 : v ≤ b.toInt64 := by rw [lg_cmp_gt] at c11; exact Int64.not_lt.mp c11
      refine lv_iconst (v := 1) hx hb dX4_in_14 (by decide) ?_
      refine lv_goto (tgt := 19) hx hb dX4_in_15 (by decide) ?_
      have h9 : (1 : Int32) = bI (decide (a.toInt64 ≤ v) && decide (v ≤ b.toInt64)) := by rw [decide_eq_true e4, decide_eq_true e11]; rfl
      exact W.zret (v := 1) hx hb hr (by first | rfl | exact bI_nar _) (fun t ht _ => ⟨congrArg (fun z => Outcome.returned (some (Value.int z))) h9, ht⟩) (fun _ h => nomatch h) dX4_in_19

set_option maxHeartbeats 4000000 in
set_option maxRecDepth 100000 in
theorem cX4_isDesk_r {l : Launch} (x : Int32) : Met l yX4_isDesk (.code yX4_isDesk cX4_isDesk 1 (some .boolean) :: lw_G) ({ frames := 1, cells := 0, slots := 0, locals := 23 } : Room) (va_Pc [.int x] (fun _ => True)) (QcRead (bI (inN x 3))) 0 0 (fun _ => False) := by
  refine Met.ofW (cc := cX4_isDesk) (maxL := 1) (ret := (some .boolean)) (by decide) rfl ?_
  intro p e s m args below meth c s₁ B hml hv
  obtain ⟨rfl, -⟩ := hv
  have hx := B.exec
  have hb := B.bytes
  have hr := B.returns
  have hG : ∀ w ∈ lw_G, w.before _ s = true := fun w h => atoms_spec (ws := _ :: lw_G) B.pre w (List.mem_cons_of_mem _ h)
  have hown : s.vm.findClass RX4 = some m.cls := findClass_of_methodNamed B.named
  have hlocks := B.notSynchronized
  have hl := lv_entry ([.int x]) (n := 1) (Nat.le_of_ble_eq_true rfl)
  rw [lg_entry_eq]
  generalize (lg_sl ([.int x]) ++ List.replicate (1 - (lg_sl ([.int x])).length) Slot.unset).toArray = ls at hl ⊢
  have hl : lv_has ls 1 [(0, .int x)] := hl
  refine lv_iload_n hx hb dX4_isDesk_0 rfl (lv_at hl 0 rfl) ?_
  refine lv_i2l (v := x.toInt64) hx hb dX4_isDesk_1 rfl ?_
  refine lv_iconst (v := 0) hx hb dX4_isDesk_2 (by decide) ?_
  refine lv_iconst (v := 2) hx hb dX4_isDesk_3 (by decide) ?_
  refine wn_rS (rest := []) hx hb hml hown hG (cX4_in_r _ _ _) (cwS 3 hG (gS g_553 g_554 g_5 g_555) rfl rfl rfl (by decide +kernel) ⟨Nat.le_of_ble_eq_true rfl, Nat.le_of_ble_eq_true rfl⟩) rfl hl.1 rfl (Nat.le_of_ble_eq_true rfl) dX4_isDesk_4 ⟨Nat.le_of_ble_eq_true rfl, Nat.le_of_ble_eq_true rfl⟩ ?_
  have h9 : (bI (decide ((0 : Int32).toInt64 ≤ x.toInt64) && decide (x.toInt64 ≤ (2 : Int32).toInt64)) : Int32) = bI (inN x 3) := by rw [in32, show (decide ((0 : Int32) ≤ x) && decide (x ≤ (2 : Int32))) = inN x 3 from in_inN x 2 (by decide)]
  exact W.zret (v := bI (decide ((0 : Int32).toInt64 ≤ x.toInt64) && decide (x.toInt64 ≤ (2 : Int32).toInt64))) hx hb hr (by first | rfl | exact bI_nar _) (fun t ht _ => ⟨congrArg (fun z => Outcome.returned (some (Value.int z))) h9, ht⟩) (fun _ h => nomatch h) dX4_isDesk_7

set_option maxHeartbeats 4000000 in
set_option maxRecDepth 100000 in
theorem cX4_isTeller_r {l : Launch} (x : Int32) : Met l yX4_isTeller (.code yX4_isTeller cX4_isTeller 1 (some .boolean) :: lw_G) ({ frames := 1, cells := 0, slots := 0, locals := 23 } : Room) (va_Pc [.int x] (fun _ => True)) (QcRead (bI (inN x 5))) 0 0 (fun _ => False) := by
  refine Met.ofW (cc := cX4_isTeller) (maxL := 1) (ret := (some .boolean)) (by decide) rfl ?_
  intro p e s m args below meth c s₁ B hml hv
  obtain ⟨rfl, -⟩ := hv
  have hx := B.exec
  have hb := B.bytes
  have hr := B.returns
  have hG : ∀ w ∈ lw_G, w.before _ s = true := fun w h => atoms_spec (ws := _ :: lw_G) B.pre w (List.mem_cons_of_mem _ h)
  have hown : s.vm.findClass RX4 = some m.cls := findClass_of_methodNamed B.named
  have hlocks := B.notSynchronized
  have hl := lv_entry ([.int x]) (n := 1) (Nat.le_of_ble_eq_true rfl)
  rw [lg_entry_eq]
  generalize (lg_sl ([.int x]) ++ List.replicate (1 - (lg_sl ([.int x])).length) Slot.unset).toArray = ls at hl ⊢
  have hl : lv_has ls 1 [(0, .int x)] := hl
  refine lv_iload_n hx hb dX4_isTeller_0 rfl (lv_at hl 0 rfl) ?_
  refine lv_i2l (v := x.toInt64) hx hb dX4_isTeller_1 rfl ?_
  refine lv_iconst (v := 0) hx hb dX4_isTeller_2 (by decide) ?_
  refine lv_iconst (v := 4) hx hb dX4_isTeller_3 (by decide) ?_
  refine wn_rS (rest := []) hx hb hml hown hG (cX4_in_r _ _ _) (cwS 3 hG (gS g_553 g_554 g_5 g_555) rfl rfl rfl (by decide +kernel) ⟨Nat.le_of_ble_eq_true rfl, Nat.le_of_ble_eq_true rfl⟩) rfl hl.1 rfl (Nat.le_of_ble_eq_true rfl) dX4_isTeller_4 ⟨Nat.le_of_ble_eq_true rfl, Nat.le_of_ble_eq_true rfl⟩ ?_
  have h9 : (bI (decide ((0 : Int32).toInt64 ≤ x.toInt64) && decide (x.toInt64 ≤ (4 : Int32).toInt64)) : Int32) = bI (inN x 5) := by rw [in32, show (decide ((0 : Int32) ≤ x) && decide (x ≤ (4 : Int32))) = inN x 5 from in_inN x 4 (by decide)]
  exact W.zret (v := bI (decide ((0 : Int32).toInt64 ≤ x.toInt64) && decide (x.toInt64 ≤ (4 : Int32).toInt64))) hx hb hr (by first | rfl | exact bI_nar _) (fun t ht _ => ⟨congrArg (fun z => Outcome.returned (some (Value.int z))) h9, ht⟩) (fun _ h => nomatch h) dX4_isTeller_7

set_option maxHeartbeats 4000000 in
set_option maxRecDepth 100000 in
theorem cX4_throwing_w {l : Launch} {D : va_G} {cA : Nat → ClassId} {adr : Nat → Nat} {n : Nat} {E : Nat → va_E} {lo : Nat} (hAd : wd_ad lo n adr) {S : CS} {th : Int32} (hn : 45 ≤ n) (hV : Inv S) (hR : RepM cA adr S th E) (b1 b2 b3 b4 : Bool) : Met l yX4_throwing (.code yX4_throwing cX4_throwing 5 (some .boolean) :: lw_G) ({ frames := 0, cells := 0, slots := 0, locals := 0 } : Room) (va_Pc [.ref (adr 30), .int (bI b1), .int (bI b2), .int (bI b3), .int (bI b4)] (wdU D (kty cA) adr n E)) (wq D lo adr n (some (.int (bI (b1 || b2 || b3 || b4)))) (fun E2 => RepM cA adr S (if b1 then 1 else if b2 then 2 else if b3 then 3 else if b4 then 4 else 0) E2 ∧ ∀ j, j ≠ 30 → E2 j = E j)) 0 0 (fun q => lo ≤ q) := by
  refine Met.ofW (cc := cX4_throwing) (maxL := 5) (ret := (some .boolean)) (by decide) rfl ?_
  intro p e s m args below meth c s₁ B hml hv
  obtain ⟨rfl, hP, hN⟩ := hv
  have hx := B.exec
  have hb := B.bytes
  have hr := B.returns
  have hG : ∀ w ∈ lw_G, w.before _ s = true := fun w h => atoms_spec (ws := _ :: lw_G) B.pre w (List.mem_cons_of_mem _ h)
  have hown : s.vm.findClass RX4 = some m.cls := findClass_of_methodNamed B.named
  have hlocks := B.notSynchronized
  have hK := hN.1
  have hS : va_S (fun q => lo ≤ q) s.heap s.heap [] := va_S.rf
  have hF : ∀ j, j ≠ 30 → E j = E j := fun j _ => rfl
  have hl := lv_entry ([.ref (adr 30), .int (bI b1), .int (bI b2), .int (bI b3), .int (bI b4)]) (n := 5) (Nat.le_of_ble_eq_true rfl)
  rw [lg_entry_eq]
  generalize (lg_sl ([.ref (adr 30), .int (bI b1), .int (bI b2), .int (bI b3), .int (bI b4)]) ++ List.replicate (5 - (lg_sl ([.ref (adr 30), .int (bI b1), .int (bI b2), .int (bI b3), .int (bI b4)])).length) Slot.unset).toArray = ls at hl ⊢
  have hl : lv_has ls 5 [(0, .ref (adr 30)), (1, .int (bI b1)), (2, .int (bI b2)), (3, .int (bI b3)), (4, .int (bI b4))] := hl
  obtain ⟨hM0, hM1, hM2, hM3, hM4, hM5, hM6, hM7, hM8, hM9, hM10, hM11, hM12, hM13, hM14⟩ := id hR
  refine lv_aload_n hx hb dX4_throwing_0 rfl (lv_at hl 0 rfl) ?_
  refine lv_iload_n hx hb dX4_throwing_1 rfl (lv_at hl 1 rfl) ?_
  refine lv_if_eq (tgt := 9) hx hb dX4_throwing_2 (by decide) (fun c2 => ?_) (fun c2 => ?_)
  · have n2 : b1 = false := bI_0.mp c2
    refine lv_iload_n hx hb dX4_throwing_9 rfl (lv_at hl 2 rfl) ?_
    refine lv_if_eq (tgt := 17) hx hb dX4_throwing_10 (by decide) (fun c10 => ?_) (fun c10 => ?_)
    · have n10 : b2 = false := bI_0.mp c10
      refine lv_iload_n hx hb dX4_throwing_17 rfl (lv_at hl 3 rfl) ?_
      refine lv_if_eq (tgt := 25) hx hb dX4_throwing_18 (by decide) (fun c18 => ?_) (fun c18 => ?_)
      · have n18 : b3 = false := bI_0.mp c18
        refine lv_iload hx hb dX4_throwing_25 (lv_at hl 4 rfl) ?_
        refine lv_if_eq (tgt := 34) hx hb dX4_throwing_27 (by decide) (fun c27 => ?_) (fun c27 => ?_)
        · have n27 : b4 = false := bI_0.mp c27
          refine lv_iconst (v := 0) hx hb dX4_throwing_34 (by decide) ?_
          refine wd_put (ci := 4) (C := RX4) (T := TX4) (N := 16) (v := .int 0) (ty := .int) hx hb hG inG_X4 tyX4 tyX4_ok nmX4 hown hK hAd hP hS (k0 := 30) (by omega) hM0 rfl 0 (by decide) (hG _ g_493) (fun _ h9 => h9) rfl (by decide +kernel) rfl rfl (Nat.le_of_ble_eq_true rfl) dX4_throwing_35 (fun H locs hP hS => ?_)
          obtain ⟨E1x, hE1x⟩ : ∃ z, z = va_up E 30 (.inr (4, [.int 0, .ref (adr 31), .ref (adr 32), .ref (adr 33), .ref (adr 34), .int (nI (c_ct S)), .ref (adr 35), .ref (adr 36), .ref (adr 37), .ref (adr 38), .ref (adr 39), .ref (adr 40), .ref (adr 41), .ref (adr 42), .ref (adr 43), .ref (adr 44)])) := ⟨_, rfl⟩
          have hP : va_P D kcl (wl adr n E1x) H := by rw [hE1x]; exact hP
          have hM0 : E1x 30 = .inr (4, [.int 0, .ref (adr 31), .ref (adr 32), .ref (adr 33), .ref (adr 34), .int (nI (c_ct S)), .ref (adr 35), .ref (adr 36), .ref (adr 37), .ref (adr 38), .ref (adr 39), .ref (adr 40), .ref (adr 41), .ref (adr 42), .ref (adr 43), .ref (adr 44)]) := by rw [hE1x, va_up_self]
          have hF : ∀ j, j ≠ 30 → E1x j = E j := fun j z0 => (show E1x j = E j from by rw [hE1x, va_up_ne _ _ z0]).trans (hF j z0)
          refine lv_aload_n hx hb dX4_throwing_38 rfl (lv_at hl 0 rfl) ?_
          refine va_get (D := D) (ci := 4) (v := .int 0) (C := RX4) (T := TX4) (N := 16) hx hb hG inG_X4 hown hK hP 30 (wl_at (by omega) hM0) rfl 0 (by decide) (hG _ g_493) (fun _ h9 => h9) rfl dX4_throwing_39 ?_
          refine lv_if_le (tgt := 49) hx hb dX4_throwing_42 (by decide) (fun c42 => ?_) (fun c42 => absurd (by decide) c42)
          refine lv_iconst (v := 0) hx hb dX4_throwing_49 (by decide) ?_
          exact W.zret (v := 0) hx hb hr (by rfl) (fun t ht _ => ⟨(by first | (rw [n2]; rfl) | (rw [n2, n10]; rfl) | (rw [n2, n10, n18]; rfl) | (rw [n2, n10, n18, n27]; rfl)), E1x, ⟨by first | (rw [n2]; exact repm_th hR hM0 hF) | (rw [n2, n10]; exact repm_th hR hM0 hF) | (rw [n2, n10, n18]; exact repm_th hR hM0 hF) | (rw [n2, n10, n18, n27]; exact repm_th hR hM0 hF), hF⟩, by rw [ht]; exact hP, hS.F ht⟩) hS.2.2 dX4_throwing_50
        · have n27 : b4 = true := bI_1.mp c27
          refine lv_iconst (v := 4) hx hb dX4_throwing_30 (by decide) ?_
          refine lv_goto (tgt := 35) hx hb dX4_throwing_31 (by decide) ?_
          refine wd_put (ci := 4) (C := RX4) (T := TX4) (N := 16) (v := .int 4) (ty := .int) hx hb hG inG_X4 tyX4 tyX4_ok nmX4 hown hK hAd hP hS (k0 := 30) (by omega) hM0 rfl 0 (by decide) (hG _ g_493) (fun _ h9 => h9) rfl (by decide +kernel) rfl rfl (Nat.le_of_ble_eq_true rfl) dX4_throwing_35 (fun H locs hP hS => ?_)
          obtain ⟨E2x, hE2x⟩ : ∃ z, z = va_up E 30 (.inr (4, [.int 4, .ref (adr 31), .ref (adr 32), .ref (adr 33), .ref (adr 34), .int (nI (c_ct S)), .ref (adr 35), .ref (adr 36), .ref (adr 37), .ref (adr 38), .ref (adr 39), .ref (adr 40), .ref (adr 41), .ref (adr 42), .ref (adr 43), .ref (adr 44)])) := ⟨_, rfl⟩
          have hP : va_P D kcl (wl adr n E2x) H := by rw [hE2x]; exact hP
          have hM0 : E2x 30 = .inr (4, [.int 4, .ref (adr 31), .ref (adr 32), .ref (adr 33), .ref (adr 34), .int (nI (c_ct S)), .ref (adr 35), .ref (adr 36), .ref (adr 37), .ref (adr 38), .ref (adr 39), .ref (adr 40), .ref (adr 41), .ref (adr 42), .ref (adr 43), .ref (adr 44)]) := by rw [hE2x, va_up_self]
          have hF : ∀ j, j ≠ 30 → E2x j = E j := fun j z0 => (show E2x j = E j from by rw [hE2x, va_up_ne _ _ z0]).trans (hF j z0)
          refine lv_aload_n hx hb dX4_throwing_38 rfl (lv_at hl 0 rfl) ?_
          refine va_get (D := D) (ci := 4) (v := .int 4) (C := RX4) (T := TX4) (N := 16) hx hb hG inG_X4 hown hK hP 30 (wl_at (by omega) hM0) rfl 0 (by decide) (hG _ g_493) (fun _ h9 => h9) rfl dX4_throwing_39 ?_
          refine lv_if_le (tgt := 49) hx hb dX4_throwing_42 (by decide) (fun c42 => absurd c42 (by decide)) (fun c42 => ?_)
          refine lv_iconst (v := 1) hx hb dX4_throwing_45 (by decide) ?_
          refine lv_goto (tgt := 50) hx hb dX4_throwing_46 (by decide) ?_
          exact W.zret (v := 1) hx hb hr (by rfl) (fun t ht _ => ⟨(by first | (rw [n2]; rfl) | (rw [n2, n10]; rfl) | (rw [n2, n10, n18]; rfl) | (rw [n2, n10, n18, n27]; rfl)), E2x, ⟨by first | (rw [n2]; exact repm_th hR hM0 hF) | (rw [n2, n10]; exact repm_th hR hM0 hF) | (rw [n2, n10, n18]; exact repm_th hR hM0 hF) | (rw [n2, n10, n18, n27]; exact repm_th hR hM0 hF), hF⟩, by rw [ht]; exact hP, hS.F ht⟩) hS.2.2 dX4_throwing_50
      · have n18 : b3 = true := bI_1.mp c18
        refine lv_iconst (v := 3) hx hb dX4_throwing_21 (by decide) ?_
        refine lv_goto (tgt := 35) hx hb dX4_throwing_22 (by decide) ?_
        refine wd_put (ci := 4) (C := RX4) (T := TX4) (N := 16) (v := .int 3) (ty := .int) hx hb hG inG_X4 tyX4 tyX4_ok nmX4 hown hK hAd hP hS (k0 := 30) (by omega) hM0 rfl 0 (by decide) (hG _ g_493) (fun _ h9 => h9) rfl (by decide +kernel) rfl rfl (Nat.le_of_ble_eq_true rfl) dX4_throwing_35 (fun H locs hP hS => ?_)
        obtain ⟨E3x, hE3x⟩ : ∃ z, z = va_up E 30 (.inr (4, [.int 3, .ref (adr 31), .ref (adr 32), .ref (adr 33), .ref (adr 34), .int (nI (c_ct S)), .ref (adr 35), .ref (adr 36), .ref (adr 37), .ref (adr 38), .ref (adr 39), .ref (adr 40), .ref (adr 41), .ref (adr 42), .ref (adr 43), .ref (adr 44)])) := ⟨_, rfl⟩
        have hP : va_P D kcl (wl adr n E3x) H := by rw [hE3x]; exact hP
        have hM0 : E3x 30 = .inr (4, [.int 3, .ref (adr 31), .ref (adr 32), .ref (adr 33), .ref (adr 34), .int (nI (c_ct S)), .ref (adr 35), .ref (adr 36), .ref (adr 37), .ref (adr 38), .ref (adr 39), .ref (adr 40), .ref (adr 41), .ref (adr 42), .ref (adr 43), .ref (adr 44)]) := by rw [hE3x, va_up_self]
        have hF : ∀ j, j ≠ 30 → E3x j = E j := fun j z0 => (show E3x j = E j from by rw [hE3x, va_up_ne _ _ z0]).trans (hF j z0)
        refine lv_aload_n hx hb dX4_throwing_38 rfl (lv_at hl 0 rfl) ?_
        refine va_get (D := D) (ci := 4) (v := .int 3) (C := RX4) (T := TX4) (N := 16) hx hb hG inG_X4 hown hK hP 30 (wl_at (by omega) hM0) rfl 0 (by decide) (hG _ g_493) (fun _ h9 => h9) rfl dX4_throwing_39 ?_
        refine lv_if_le (tgt := 49) hx hb dX4_throwing_42 (by decide) (fun c42 => absurd c42 (by decide)) (fun c42 => ?_)
        refine lv_iconst (v := 1) hx hb dX4_throwing_45 (by decide) ?_
        refine lv_goto (tgt := 50) hx hb dX4_throwing_46 (by decide) ?_
        exact W.zret (v := 1) hx hb hr (by rfl) (fun t ht _ => ⟨(by first | (rw [n2]; rfl) | (rw [n2, n10]; rfl) | (rw [n2, n10, n18]; rfl) | (rw [n2, n10, n18, n27]; rfl)), E3x, ⟨by first | (rw [n2]; exact repm_th hR hM0 hF) | (rw [n2, n10]; exact repm_th hR hM0 hF) | (rw [n2, n10, n18]; exact repm_th hR hM0 hF) | (rw [n2, n10, n18, n27]; exact repm_th hR hM0 hF), hF⟩, by rw [ht]; exact hP, hS.F ht⟩) hS.2.2 dX4_throwing_50
    · have n10 : b2 = true := bI_1.mp c10
      refine lv_iconst (v := 2) hx hb dX4_throwing_13 (by decide) ?_
      refine lv_goto (tgt := 35) hx hb dX4_throwing_14 (by decide) ?_
      refine wd_put (ci := 4) (C := RX4) (T := TX4) (N := 16) (v := .int 2) (ty := .int) hx hb hG inG_X4 tyX4 tyX4_ok nmX4 hown hK hAd hP hS (k0 := 30) (by omega) hM0 rfl 0 (by decide) (hG _ g_493) (fun _ h9 => h9) rfl (by decide +kernel) rfl rfl (Nat.le_of_ble_eq_true rfl) dX4_throwing_35 (fun H locs hP hS => ?_)
      obtain ⟨E4x, hE4x⟩ : ∃ z, z = va_up E 30 (.inr (4, [.int 2, .ref (adr 31), .ref (adr 32), .ref (adr 33), .ref (adr 34), .int (nI (c_ct S)), .ref (adr 35), .ref (adr 36), .ref (adr 37), .ref (adr 38), .ref (adr 39), .ref (adr 40), .ref (adr 41), .ref (adr 42), .ref (adr 43), .ref (adr 44)])) := ⟨_, rfl⟩
      have hP : va_P D kcl (wl adr n E4x) H := by rw [hE4x]; exact hP
      have hM0 : E4x 30 = .inr (4, [.int 2, .ref (adr 31), .ref (adr 32), .ref (adr 33), .ref (adr 34), .int (nI (c_ct S)), .ref (adr 35), .ref (adr 36), .ref (adr 37), .ref (adr 38), .ref (adr 39), .ref (adr 40), .ref (adr 41), .ref (adr 42), .ref (adr 43), .ref (adr 44)]) := by rw [hE4x, va_up_self]
      have hF : ∀ j, j ≠ 30 → E4x j = E j := fun j z0 => (show E4x j = E j from by rw [hE4x, va_up_ne _ _ z0]).trans (hF j z0)
      refine lv_aload_n hx hb dX4_throwing_38 rfl (lv_at hl 0 rfl) ?_
      refine va_get (D := D) (ci := 4) (v := .int 2) (C := RX4) (T := TX4) (N := 16) hx hb hG inG_X4 hown hK hP 30 (wl_at (by omega) hM0) rfl 0 (by decide) (hG _ g_493) (fun _ h9 => h9) rfl dX4_throwing_39 ?_
      refine lv_if_le (tgt := 49) hx hb dX4_throwing_42 (by decide) (fun c42 => absurd c42 (by decide)) (fun c42 => ?_)
      refine lv_iconst (v := 1) hx hb dX4_throwing_45 (by decide) ?_
      refine lv_goto (tgt := 50) hx hb dX4_throwing_46 (by decide) ?_
      exact W.zret (v := 1) hx hb hr (by rfl) (fun t ht _ => ⟨(by first | (rw [n2]; rfl) | (rw [n2, n10]; rfl) | (rw [n2, n10, n18]; rfl) | (rw [n2, n10, n18, n27]; rfl)), E4x, ⟨by first | (rw [n2]; exact repm_th hR hM0 hF) | (rw [n2, n10]; exact repm_th hR hM0 hF) | (rw [n2, n10, n18]; exact repm_th hR hM0 hF) | (rw [n2, n10, n18, n27]; exact repm_th hR hM0 hF), hF⟩, by rw [ht]; exact hP, hS.F ht⟩) hS.2.2 dX4_throwing_50
  · have n2 : b1 = true := bI_1.mp c2
    refine lv_iconst (v := 1) hx hb dX4_throwing_5 (by decide) ?_
    refine lv_goto (tgt := 35) hx hb dX4_throwing_6 (by decide) ?_
    refine wd_put (ci := 4) (C := RX4) (T := TX4) (N := 16) (v := .int 1) (ty := .int) hx hb hG inG_X4 tyX4 tyX4_ok nmX4 hown hK hAd hP hS (k0 := 30) (by omega) hM0 rfl 0 (by decide) (hG _ g_493) (fun _ h9 => h9) rfl (by decide +kernel) rfl rfl (Nat.le_of_ble_eq_true rfl) dX4_throwing_35 (fun H locs hP hS => ?_)
    obtain ⟨E5x, hE5x⟩ : ∃ z, z = va_up E 30 (.inr (4, [.int 1, .ref (adr 31), .ref (adr 32), .ref (adr 33), .ref (adr 34), .int (nI (c_ct S)), .ref (adr 35), .ref (adr 36), .ref (adr 37), .ref (adr 38), .ref (adr 39), .ref (adr 40), .ref (adr 41), .ref (adr 42), .ref (adr 43), .ref (adr 44)])) := ⟨_, rfl⟩
    have hP : va_P D kcl (wl adr n E5x) H := by rw [hE5x]; exact hP
    have hM0 : E5x 30 = .inr (4, [.int 1, .ref (adr 31), .ref (adr 32), .ref (adr 33), .ref (adr 34), .int (nI (c_ct S)), .ref (adr 35), .ref (adr 36), .ref (adr 37), .ref (adr 38), .ref (adr 39), .ref (adr 40), .ref (adr 41), .ref (adr 42), .ref (adr 43), .ref (adr 44)]) := by rw [hE5x, va_up_self]
    have hF : ∀ j, j ≠ 30 → E5x j = E j := fun j z0 => (show E5x j = E j from by rw [hE5x, va_up_ne _ _ z0]).trans (hF j z0)
    refine lv_aload_n hx hb dX4_throwing_38 rfl (lv_at hl 0 rfl) ?_
    refine va_get (D := D) (ci := 4) (v := .int 1) (C := RX4) (T := TX4) (N := 16) hx hb hG inG_X4 hown hK hP 30 (wl_at (by omega) hM0) rfl 0 (by decide) (hG _ g_493) (fun _ h9 => h9) rfl dX4_throwing_39 ?_
    refine lv_if_le (tgt := 49) hx hb dX4_throwing_42 (by decide) (fun c42 => absurd c42 (by decide)) (fun c42 => ?_)
    refine lv_iconst (v := 1) hx hb dX4_throwing_45 (by decide) ?_
    refine lv_goto (tgt := 50) hx hb dX4_throwing_46 (by decide) ?_
    exact W.zret (v := 1) hx hb hr (by rfl) (fun t ht _ => ⟨(by first | (rw [n2]; rfl) | (rw [n2, n10]; rfl) | (rw [n2, n10, n18]; rfl) | (rw [n2, n10, n18, n27]; rfl)), E5x, ⟨by first | (rw [n2]; exact repm_th hR hM0 hF) | (rw [n2, n10]; exact repm_th hR hM0 hF) | (rw [n2, n10, n18]; exact repm_th hR hM0 hF) | (rw [n2, n10, n18, n27]; exact repm_th hR hM0 hF), hF⟩, by rw [ht]; exact hP, hS.F ht⟩) hS.2.2 dX4_throwing_50

set_option maxHeartbeats 4000000 in
set_option maxRecDepth 100000 in
theorem cX4_areRivals_r {l : Launch} {D : va_G} {cA : Nat → ClassId} {adr : Nat → Nat} {n : Nat} {E : Nat → va_E} {S : CS} {th : Int32} (hn : 45 ≤ n) (hV : Inv S) (hR : RepM cA adr S th E) {i j : Nat} (hi : i < 120) (hj : j < 120) : Met l yX4_areRivals (.code yX4_areRivals cX4_areRivals 3 (some .boolean) :: lw_G) ({ frames := 0, cells := 0, slots := 0, locals := 0 } : Room) (va_Pc [.ref (adr 30), .int (nI i), .int (nI j)] (wdU D (kty cA) adr n E)) (QcRead (bI (c_rv S i j))) 0 0 (fun _ => False) := by
  refine Met.ofW (cc := cX4_areRivals) (maxL := 3) (ret := (some .boolean)) (by decide) rfl ?_
  intro p e s m args below meth c s₁ B hml hv
  obtain ⟨rfl, hP, hN⟩ := hv
  have hx := B.exec
  have hb := B.bytes
  have hr := B.returns
  have hG : ∀ w ∈ lw_G, w.before _ s = true := fun w h => atoms_spec (ws := _ :: lw_G) B.pre w (List.mem_cons_of_mem _ h)
  have hown : s.vm.findClass RX4 = some m.cls := findClass_of_methodNamed B.named
  have hlocks := B.notSynchronized
  have hK := hN.1
  have hl := lv_entry ([.ref (adr 30), .int (nI i), .int (nI j)]) (n := 3) (Nat.le_of_ble_eq_true rfl)
  rw [lg_entry_eq]
  generalize (lg_sl ([.ref (adr 30), .int (nI i), .int (nI j)]) ++ List.replicate (3 - (lg_sl ([.ref (adr 30), .int (nI i), .int (nI j)])).length) Slot.unset).toArray = ls at hl ⊢
  have hl : lv_has ls 3 [(0, .ref (adr 30)), (1, .int (nI i)), (2, .int (nI j))] := hl
  obtain ⟨hM0, hM1, hM2, hM3, hM4, hM5, hM6, hM7, hM8, hM9, hM10, hM11, hM12, hM13, hM14⟩ := id hR
  obtain ⟨hct, hnm, htd, hmk, hlf, hnt, hnu, hcn, hmz, hmm, hib, hmr, hrise⟩ := id hV
  have b1 := hnm i
  have b2 := hnm j
  refine lv_iload_n hx hb dX4_areRivals_0 rfl (lv_at hl 1 rfl) ?_
  refine lv_iload_n hx hb dX4_areRivals_1 rfl (lv_at hl 2 rfl) ?_
  refine lv_icmp_eq (tgt := 54) hx hb dX4_areRivals_2 (by decide) (fun c2 => ?_) (fun c2 => ?_)
  · have n2 : i = j := (nI_eq (a := i) (b := j) (by omega) (by omega)).mp c2
    refine lv_iconst (v := 0) hx hb dX4_areRivals_54 (by decide) ?_
    have h9 : (0 : Int32) = bI (c_rv S i j) := by unfold c_rv; first | (rw [decide_eq_true n2]; rfl) | (rw [decide_eq_false (show ¬ c_nm S i = c_nm S j from fun h => n17 (by rw [h])), Bool.and_false]; rfl) | (rw [decide_eq_false (show ¬ c_nm S i = c_nm S j from fun h => n32 (by rw [h])), Bool.and_false]; rfl) | (rw [decide_eq_false (show ¬ c_nm S i = c_nm S j from fun h => n47 (by rw [h])), Bool.and_false]; rfl)
    exact W.zret (v := 0) hx hb hr (by first | rfl | exact bI_nar _) (fun t ht _ => ⟨congrArg (fun z => Outcome.returned (some (Value.int z))) h9, ht⟩) (fun _ h => nomatch h) dX4_areRivals_55
  · have n2 : ¬ i = j := fun h7 => c2 ((nI_eq (a := i) (b := j) (by omega) (by omega)).mpr h7)
    refine lv_aload_n hx hb dX4_areRivals_5 rfl (lv_at hl 0 rfl) ?_
    refine va_get (D := D) (ci := 4) (v := .ref (adr 35)) (C := RX4) (T := TX4) (N := 16) hx hb hG inG_X4 hown hK hP 30 (wl_at (by omega) hM0) rfl 6 (by decide) (hG _ g_499) (fun _ h9 => h9) rfl dX4_areRivals_6 ?_
    refine lv_iload_n hx hb dX4_areRivals_9 rfl (lv_at hl 1 rfl) ?_
    refine wn_iald (j := i) hx hb hK hP (by omega) hM5 (by omega) (by decide) dX4_areRivals_10 ?_
    refine lv_aload_n hx hb dX4_areRivals_11 rfl (lv_at hl 0 rfl) ?_
    refine va_get (D := D) (ci := 4) (v := .ref (adr 35)) (C := RX4) (T := TX4) (N := 16) hx hb hG inG_X4 hown hK hP 30 (wl_at (by omega) hM0) rfl 6 (by decide) (hG _ g_499) (fun _ h9 => h9) rfl dX4_areRivals_12 ?_
    refine lv_iload_n hx hb dX4_areRivals_15 rfl (lv_at hl 2 rfl) ?_
    refine wn_iald (j := j) hx hb hK hP (by omega) hM5 (by omega) (by decide) dX4_areRivals_16 ?_
    refine lv_icmp_ne (tgt := 54) hx hb dX4_areRivals_17 (by decide) (fun c17 => ?_) (fun c17 => ?_)
    · have n17 : ¬ (c_nm S i / 512) = (c_nm S j / 512) := fun h7 => c17 ((nI_eq (a := (c_nm S i / 512)) (b := (c_nm S j / 512)) (by omega) (by omega)).mpr h7)
      refine lv_iconst (v := 0) hx hb dX4_areRivals_54 (by decide) ?_
      have h9 : (0 : Int32) = bI (c_rv S i j) := by unfold c_rv; first | (rw [decide_eq_true n2]; rfl) | (rw [decide_eq_false (show ¬ c_nm S i = c_nm S j from fun h => n17 (by rw [h])), Bool.and_false]; rfl) | (rw [decide_eq_false (show ¬ c_nm S i = c_nm S j from fun h => n32 (by rw [h])), Bool.and_false]; rfl) | (rw [decide_eq_false (show ¬ c_nm S i = c_nm S j from fun h => n47 (by rw [h])), Bool.and_false]; rfl)
      exact W.zret (v := 0) hx hb hr (by first | rfl | exact bI_nar _) (fun t ht _ => ⟨congrArg (fun z => Outcome.returned (some (Value.int z))) h9, ht⟩) (fun _ h => nomatch h) dX4_areRivals_55
    · have n17 : (c_nm S i / 512) = (c_nm S j / 512) := (nI_eq (a := (c_nm S i / 512)) (b := (c_nm S j / 512)) (by omega) (by omega)).mp c17
      refine lv_aload_n hx hb dX4_areRivals_20 rfl (lv_at hl 0 rfl) ?_
      refine va_get (D := D) (ci := 4) (v := .ref (adr 36)) (C := RX4) (T := TX4) (N := 16) hx hb hG inG_X4 hown hK hP 30 (wl_at (by omega) hM0) rfl 7 (by decide) (hG _ g_500) (fun _ h9 => h9) rfl dX4_areRivals_21 ?_
      refine lv_iload_n hx hb dX4_areRivals_24 rfl (lv_at hl 1 rfl) ?_
      refine wn_iald (j := i) hx hb hK hP (by omega) hM6 (by omega) (by decide) dX4_areRivals_25 ?_
      refine lv_aload_n hx hb dX4_areRivals_26 rfl (lv_at hl 0 rfl) ?_
      refine va_get (D := D) (ci := 4) (v := .ref (adr 36)) (C := RX4) (T := TX4) (N := 16) hx hb hG inG_X4 hown hK hP 30 (wl_at (by omega) hM0) rfl 7 (by decide) (hG _ g_500) (fun _ h9 => h9) rfl dX4_areRivals_27 ?_
      refine lv_iload_n hx hb dX4_areRivals_30 rfl (lv_at hl 2 rfl) ?_
      refine wn_iald (j := j) hx hb hK hP (by omega) hM6 (by omega) (by decide) dX4_areRivals_31 ?_
      refine lv_icmp_ne (tgt := 54) hx hb dX4_areRivals_32 (by decide) (fun c32 => ?_) (fun c32 => ?_)
      · have n32 : ¬ (c_nm S i / 128 % 4) = (c_nm S j / 128 % 4) := fun h7 => c32 ((nI_eq (a := (c_nm S i / 128 % 4)) (b := (c_nm S j / 128 % 4)) (by omega) (by omega)).mpr h7)
        refine lv_iconst (v := 0) hx hb dX4_areRivals_54 (by decide) ?_
        have h9 : (0 : Int32) = bI (c_rv S i j) := by unfold c_rv; first | (rw [decide_eq_true n2]; rfl) | (rw [decide_eq_false (show ¬ c_nm S i = c_nm S j from fun h => n17 (by rw [h])), Bool.and_false]; rfl) | (rw [decide_eq_false (show ¬ c_nm S i = c_nm S j from fun h => n32 (by rw [h])), Bool.and_false]; rfl) | (rw [decide_eq_false (show ¬ c_nm S i = c_nm S j from fun h => n47 (by rw [h])), Bool.and_false]; rfl)
        exact W.zret (v := 0) hx hb hr (by first | rfl | exact bI_nar _) (fun t ht _ => ⟨congrArg (fun z => Outcome.returned (some (Value.int z))) h9, ht⟩) (fun _ h => nomatch h) dX4_areRivals_55
      · have n32 : (c_nm S i / 128 % 4) = (c_nm S j / 128 % 4) := (nI_eq (a := (c_nm S i / 128 % 4)) (b := (c_nm S j / 128 % 4)) (by omega) (by omega)).mp c32
        refine lv_aload_n hx hb dX4_areRivals_35 rfl (lv_at hl 0 rfl) ?_
        refine va_get (D := D) (ci := 4) (v := .ref (adr 37)) (C := RX4) (T := TX4) (N := 16) hx hb hG inG_X4 hown hK hP 30 (wl_at (by omega) hM0) rfl 8 (by decide) (hG _ g_501) (fun _ h9 => h9) rfl dX4_areRivals_36 ?_
        refine lv_iload_n hx hb dX4_areRivals_39 rfl (lv_at hl 1 rfl) ?_
        refine wn_iald (j := i) hx hb hK hP (by omega) hM7 (by omega) (by decide) dX4_areRivals_40 ?_
        refine lv_aload_n hx hb dX4_areRivals_41 rfl (lv_at hl 0 rfl) ?_
        refine va_get (D := D) (ci := 4) (v := .ref (adr 37)) (C := RX4) (T := TX4) (N := 16) hx hb hG inG_X4 hown hK hP 30 (wl_at (by omega) hM0) rfl 8 (by decide) (hG _ g_501) (fun _ h9 => h9) rfl dX4_areRivals_42 ?_
        refine lv_iload_n hx hb dX4_areRivals_45 rfl (lv_at hl 2 rfl) ?_
        refine wn_iald (j := j) hx hb hK hP (by omega) hM7 (by omega) (by decide) dX4_areRivals_46 ?_
        refine lv_icmp_ne (tgt := 54) hx hb dX4_areRivals_47 (by decide) (fun c47 => ?_) (fun c47 => ?_)
        · have n47 : ¬ (c_nm S i % 128) = (c_nm S j % 128) := fun h7 => c47 ((nI_eq (a := (c_nm S i % 128)) (b := (c_nm S j % 128)) (by omega) (by omega)).mpr h7)
          refine lv_iconst (v := 0) hx hb dX4_areRivals_54 (by decide) ?_
          have h9 : (0 : Int32) = bI (c_rv S i j) := by unfold c_rv; first | (rw [decide_eq_true n2]; rfl) | (rw [decide_eq_false (show ¬ c_nm S i = c_nm S j from fun h => n17 (by rw [h])), Bool.and_false]; rfl) | (rw [decide_eq_false (show ¬ c_nm S i = c_nm S j from fun h => n32 (by rw [h])), Bool.and_false]; rfl) | (rw [decide_eq_false (show ¬ c_nm S i = c_nm S j from fun h => n47 (by rw [h])), Bool.and_false]; rfl)
          exact W.zret (v := 0) hx hb hr (by first | rfl | exact bI_nar _) (fun t ht _ => ⟨congrArg (fun z => Outcome.returned (some (Value.int z))) h9, ht⟩) (fun _ h => nomatch h) dX4_areRivals_55
        · have n47 : (c_nm S i % 128) = (c_nm S j % 128) := (nI_eq (a := (c_nm S i % 128)) (b := (c_nm S j % 128)) (by omega) (by omega)).mp c47
          refine lv_iconst (v := 1) hx hb dX4_areRivals_50 (by decide) ?_
          refine lv_goto (tgt := 55) hx hb dX4_areRivals_51 (by decide) ?_
          have h9 : (1 : Int32) = bI (c_rv S i j) := by unfold c_rv; rw [decide_eq_false n2, decide_eq_true (show c_nm S i = c_nm S j by omega)]; rfl
          exact W.zret (v := 1) hx hb hr (by first | rfl | exact bI_nar _) (fun t ht _ => ⟨congrArg (fun z => Outcome.returned (some (Value.int z))) h9, ht⟩) (fun _ h => nomatch h) dX4_areRivals_55

set_option maxHeartbeats 4000000 in
set_option maxRecDepth 100000 in
theorem cX4_has_r {l : Launch} {D : va_G} {cA : Nat → ClassId} {adr : Nat → Nat} {n : Nat} {E : Nat → va_E} {S : CS} {th : Int32} (hn : 45 ≤ n) (hV : Inv S) (hR : RepM cA adr S th E) {d j : Nat} (hd : d < 3) (hj : j < 120) : Met l yX4_has (.code yX4_has cX4_has 3 (some .boolean) :: lw_G) ({ frames := 0, cells := 0, slots := 0, locals := 0 } : Room) (va_Pc [.ref (adr 30), .int (nI d), .int (nI j)] (wdU D (kty cA) adr n E)) (QcRead (bI (c_has S d j))) 0 0 (fun _ => False) := by
  refine Met.ofW (cc := cX4_has) (maxL := 3) (ret := (some .boolean)) (by decide) rfl ?_
  intro p e s m args below meth c s₁ B hml hv
  obtain ⟨rfl, hP, hN⟩ := hv
  have hx := B.exec
  have hb := B.bytes
  have hr := B.returns
  have hG : ∀ w ∈ lw_G, w.before _ s = true := fun w h => atoms_spec (ws := _ :: lw_G) B.pre w (List.mem_cons_of_mem _ h)
  have hown : s.vm.findClass RX4 = some m.cls := findClass_of_methodNamed B.named
  have hlocks := B.notSynchronized
  have hK := hN.1
  have hl := lv_entry ([.ref (adr 30), .int (nI d), .int (nI j)]) (n := 3) (Nat.le_of_ble_eq_true rfl)
  rw [lg_entry_eq]
  generalize (lg_sl ([.ref (adr 30), .int (nI d), .int (nI j)]) ++ List.replicate (3 - (lg_sl ([.ref (adr 30), .int (nI d), .int (nI j)])).length) Slot.unset).toArray = ls at hl ⊢
  have hl : lv_has ls 3 [(0, .ref (adr 30)), (1, .int (nI d)), (2, .int (nI j))] := hl
  obtain ⟨hM0, hM1, hM2, hM3, hM4, hM5, hM6, hM7, hM8, hM9, hM10, hM11, hM12, hM13, hM14⟩ := id hR
  obtain ⟨hct, hnm, htd, hmk, hlf, hnt, hnu, hcn, hmz, hmm, hib, hmr, hrise⟩ := id hV
  refine lv_aload_n hx hb dX4_has_0 rfl (lv_at hl 0 rfl) ?_
  refine va_get (D := D) (ci := 4) (v := .ref (adr 42)) (C := RX4) (T := TX4) (N := 16) hx hb hG inG_X4 hown hK hP 30 (wl_at (by omega) hM0) rfl 13 (by decide) (hG _ g_506) (fun _ h9 => h9) rfl dX4_has_1 ?_
  refine lv_bipush (v := 120) hx hb dX4_has_4 (by decide) ?_
  refine lv_iload_n hx hb dX4_has_6 rfl (lv_at hl 1 rfl) ?_
  refine lv_imul hx hb dX4_has_7 ?_
  refine lv_topi (fun y9 e9 => ?_)
  have e9 : y9 = nI (120 * d) := e9.trans (pk_mul 120 d)
  subst e9
  refine lv_iload_n hx hb dX4_has_8 rfl (lv_at hl 2 rfl) ?_
  refine lv_iadd hx hb dX4_has_9 ?_
  refine lv_topi (fun y9 e9 => ?_)
  have e9 : y9 = nI ((120 * d) + j) := e9.trans (nI_add (120 * d) j)
  subst e9
  refine wn_ialde (j := ((120 * d) + j)) (v := c_mo S d j) hx hb hK hP (by omega) hM12 (by omega) (by decide) (fl_at (c_mo S) (by omega)) dX4_has_10 ?_
  refine lv_if_eq (tgt := 18) hx hb dX4_has_11 (by decide) (fun c11 => ?_) (fun c11 => ?_)
  · refine lv_iconst (v := 0) hx hb dX4_has_18 (by decide) ?_
    have h9 : (0 : Int32) = bI (c_has S d j) := by unfold c_has; rw [decide_eq_true c11]; rfl
    exact W.zret (v := 0) hx hb hr (by first | rfl | exact bI_nar _) (fun t ht _ => ⟨congrArg (fun z => Outcome.returned (some (Value.int z))) h9, ht⟩) (fun _ h => nomatch h) dX4_has_19
  · refine lv_iconst (v := 1) hx hb dX4_has_14 (by decide) ?_
    refine lv_goto (tgt := 19) hx hb dX4_has_15 (by decide) ?_
    have h9 : (1 : Int32) = bI (c_has S d j) := by unfold c_has; rw [decide_eq_false c11]; rfl
    exact W.zret (v := 1) hx hb hr (by first | rfl | exact bI_nar _) (fun t ht _ => ⟨congrArg (fun z => Outcome.returned (some (Value.int z))) h9, ht⟩) (fun _ h => nomatch h) dX4_has_19

set_option maxHeartbeats 4000000 in
set_option maxRecDepth 100000 in
theorem cX4_sees_r {l : Launch} {D : va_G} {cA : Nat → ClassId} {adr : Nat → Nat} {n : Nat} {E : Nat → va_E} {S : CS} {th : Int32} (hn : 45 ≤ n) (hV : Inv S) (hR : RepM cA adr S th E) {d j : Nat} (hd : d < 3) (hj : j < 120) (by_ : Int32) : Met l yX4_sees (.code yX4_sees cX4_sees 4 (some .boolean) :: lw_G) ({ frames := 1, cells := 0, slots := 0, locals := 23 } : Room) (va_Pc [.ref (adr 30), .int (nI d), .int (nI j), .int by_] (wdU D (kty cA) adr n E)) (QcRead (bI (c_had S d j by_))) 0 0 (fun _ => False) := by
  refine Met.ofW (cc := cX4_sees) (maxL := 4) (ret := (some .boolean)) (by decide) rfl ?_
  intro p e s m args below meth c s₁ B hml hv
  obtain ⟨rfl, hP, hN⟩ := hv
  have hx := B.exec
  have hb := B.bytes
  have hr := B.returns
  have hG : ∀ w ∈ lw_G, w.before _ s = true := fun w h => atoms_spec (ws := _ :: lw_G) B.pre w (List.mem_cons_of_mem _ h)
  have hown : s.vm.findClass RX4 = some m.cls := findClass_of_methodNamed B.named
  have hlocks := B.notSynchronized
  have hK := hN.1
  have hl := lv_entry ([.ref (adr 30), .int (nI d), .int (nI j), .int by_]) (n := 4) (Nat.le_of_ble_eq_true rfl)
  rw [lg_entry_eq]
  generalize (lg_sl ([.ref (adr 30), .int (nI d), .int (nI j), .int by_]) ++ List.replicate (4 - (lg_sl ([.ref (adr 30), .int (nI d), .int (nI j), .int by_])).length) Slot.unset).toArray = ls at hl ⊢
  have hl : lv_has ls 4 [(0, .ref (adr 30)), (1, .int (nI d)), (2, .int (nI j)), (3, .int by_)] := hl
  obtain ⟨hM0, hM1, hM2, hM3, hM4, hM5, hM6, hM7, hM8, hM9, hM10, hM11, hM12, hM13, hM14⟩ := id hR
  obtain ⟨hct, hnm, htd, hmk, hlf, hnt, hnu, hcn, hmz, hmm, hib, hmr, hrise⟩ := id hV
  refine lv_aload_n hx hb dX4_sees_0 rfl (lv_at hl 0 rfl) ?_
  refine va_get (D := D) (ci := 4) (v := .ref (adr 42)) (C := RX4) (T := TX4) (N := 16) hx hb hG inG_X4 hown hK hP 30 (wl_at (by omega) hM0) rfl 13 (by decide) (hG _ g_506) (fun _ h9 => h9) rfl dX4_sees_1 ?_
  refine lv_bipush (v := 120) hx hb dX4_sees_4 (by decide) ?_
  refine lv_iload_n hx hb dX4_sees_6 rfl (lv_at hl 1 rfl) ?_
  refine lv_imul hx hb dX4_sees_7 ?_
  refine lv_topi (fun y9 e9 => ?_)
  have e9 : y9 = nI (120 * d) := e9.trans (pk_mul 120 d)
  subst e9
  refine lv_iload_n hx hb dX4_sees_8 rfl (lv_at hl 2 rfl) ?_
  refine lv_iadd hx hb dX4_sees_9 ?_
  refine lv_topi (fun y9 e9 => ?_)
  have e9 : y9 = nI ((120 * d) + j) := e9.trans (nI_add (120 * d) j)
  subst e9
  refine wn_ialde (j := ((120 * d) + j)) (v := c_mo S d j) hx hb hK hP (by omega) hM12 (by omega) (by decide) (fl_at (c_mo S) (by omega)) dX4_sees_10 ?_
  refine lv_i2l (v := (c_mo S d j).toInt64) hx hb dX4_sees_11 rfl ?_
  refine lv_iconst (v := 1) hx hb dX4_sees_12 (by decide) ?_
  refine lv_iload_n hx hb dX4_sees_13 rfl (lv_at hl 3 rfl) ?_
  refine wn_rS (rest := []) hx hb hml hown hG (cX4_in_r _ _ _) (cwS 3 hG (gS g_553 g_554 g_5 g_555) rfl rfl rfl (by decide +kernel) ⟨Nat.le_of_ble_eq_true rfl, Nat.le_of_ble_eq_true rfl⟩) rfl hl.1 rfl (Nat.le_of_ble_eq_true rfl) dX4_sees_14 ⟨Nat.le_of_ble_eq_true rfl, Nat.le_of_ble_eq_true rfl⟩ ?_
  have h9 : (bI (decide ((1 : Int32).toInt64 ≤ (c_mo S d j).toInt64) && decide ((c_mo S d j).toInt64 ≤ by_.toInt64)) : Int32) = bI (c_had S d j by_) := by rw [in32]; unfold c_had; rw [decide_eq_decide.mpr (show (1 : Int32) ≤ c_mo S d j ↔ 0 < c_mo S d j from one_le _)]
  exact W.zret (v := bI (decide ((1 : Int32).toInt64 ≤ (c_mo S d j).toInt64) && decide ((c_mo S d j).toInt64 ≤ by_.toInt64))) hx hb hr (by first | rfl | exact bI_nar _) (fun t ht _ => ⟨congrArg (fun z => Outcome.returned (some (Value.int z))) h9, ht⟩) (fun _ h => nomatch h) dX4_sees_17
