set_option maxHeartbeats 4000000 in
set_option maxRecDepth 100000 in
/-- Tellings.find -/
theorem cX2_find_r {l : Launch} {D : va_G} {cA : Nat → ClassId} {adr : Nat → Nat} {n : Nat} {E : Nat → va_E} {k ct : Nat} {nm td : Nat → Nat} {vl : Nat → Int32} {sd : Nat → Bool} (hk : k + 4 < n) (hct : ct ≤ 120) (hE0 : E k = .inr (2, [.ref (adr (k + 1)), .ref (adr (k + 2)), .ref (adr (k + 3)), .ref (adr (k + 4)), .int (nI ct)])) (hE1 : E (k + 1) = .inl (cA 0, 120, .inl (fun j => nI (nm j)))) (hE2 : E (k + 2) = .inl (cA 0, 120, .inl (fun j => nI (td j)))) (hE3 : E (k + 3) = .inl (cA 0, 120, .inl vl)) (hE4 : E (k + 4) = .inl (cA 1, 120, .inl (fun j => bI (sd j)))) (hnm : ∀ j, nm j < 2560) (htd : ∀ j, td j < 2 ^ 30) {a b : Nat} (ha : a < 2560) (hb2 : b < 2 ^ 30) (v : Int32) : Met l yX2_find (.code yX2_find cX2_find 5 (some .int) :: lw_G) ({ frames := 0, cells := 0, slots := 0, locals := 0 } : Room) (va_Pc [.ref (adr k), .int (nI a), .int (nI b), .int v] (wdU D (kty cA) adr n E)) (QcRead (oI (fiB (fun j => decide (nm j = a) && decide (td j = b) && decide (vl j = v)) ct))) 0 0 (fun _ => False) := by
  refine Met.ofW (cc := cX2_find) (maxL := 5) (ret := (some .int)) (by decide) rfl ?_
  intro p e s m args below meth c s₁ B hml hv
  obtain ⟨rfl, hP, hN⟩ := hv
  have hx := B.exec
  have hb := B.bytes
  have hr := B.returns
  have hG : ∀ w ∈ lw_G, w.before _ s = true := fun w h => atoms_spec (ws := _ :: lw_G) B.pre w (List.mem_cons_of_mem _ h)
  have hown : s.vm.findClass RX2 = some m.cls := findClass_of_methodNamed B.named
  have hlocks := B.notSynchronized
  have hK := hN.1
  have hl := lv_entry ([.ref (adr k), .int (nI a), .int (nI b), .int v]) (n := 5) (Nat.le_of_ble_eq_true rfl)
  rw [lg_entry_eq]
  generalize (lg_sl ([.ref (adr k), .int (nI a), .int (nI b), .int v]) ++ List.replicate (5 - (lg_sl ([.ref (adr k), .int (nI a), .int (nI b), .int v])).length) Slot.unset).toArray = ls at hl ⊢
  have hl : lv_has ls 5 [(0, .ref (adr k)), (1, .int (nI a)), (2, .int (nI b)), (3, .int v)] := hl
  refine lv_iconst (v := 0) hx hb dX2_find_0 (by decide) ?_
  refine lv_istore (lv' := [(4, .int 0), (0, .ref (adr k)), (1, .int (nI a)), (2, .int (nI b)), (3, .int v)]) hx hb dX2_find_1 hl (by decide) rfl (fun ls hl => ?_)
  have L3 : ∀ (f : Nat) (i : Nat), ct - i < f → i ≤ ct → fiB (fun j => decide (nm j = a) && decide (td j = b) && decide (vl j = v)) i = none → ∀ ls : Array Slot, lv_has ls 5 [(4, .int (nI i)), (0, .ref (adr k)), (1, .int (nI a)), (2, .int (nI b)), (3, .int v)] → W p l e (headSpec (.code yX2_find cX2_find 5 (some .int) :: lw_G) ({ frames := 0, cells := 0, slots := 0, locals := 0 } : Room)).room s m [.ref (adr k), .int (nI a), .int (nI b), .int v].toArray below meth c s.heap [] 0 0 (MQ below (QcRead (oI (fiB (fun j => decide (nm j = a) && decide (td j = b) && decide (vl j = v)) ct))) [.ref (adr k), .int (nI a), .int (nI b), .int v].toArray s 0 0 (fun _ => False)) (F0 m 3 ls []) := by
    intro f
    induction f with
    | zero => intro i h0; exact absurd h0 (by omega)
    | succ f ih =>
      intro i hf hi hq ls hl
      refine lv_iload hx hb dX2_find_3 (lv_at hl 0 rfl) ?_
      refine lv_aload_n hx hb dX2_find_5 rfl (lv_at hl 1 rfl) ?_
      refine va_get (D := D) (ci := 2) (v := .int (nI ct)) (C := RX2) (T := TX2) (N := 5) hx hb hG inG_X2 hown hK hP k (wl_at (by omega) hE0) rfl 4 (by decide) (hG _ g_40) (fun _ h9 => h9) rfl dX2_find_6 ?_
      refine lv_icmp_ge (tgt := 54) hx hb dX2_find_9 (by decide) (fun c9 => ?_) (fun c9 => ?_)
      · have n9 : ct ≤ i := (nI_leI (a := ct) (b := i) (by omega) (by omega)).mp c9
        refine lv_iconst (v := (-1)) hx hb dX2_find_54 (by decide) ?_
        have h9 : ((-1) : Int32) = oI (fiB (fun j => decide (nm j = a) && decide (td j = b) && decide (vl j = v)) ct) := by rw [show ct = i from by omega, hq]; rfl
        exact W.iret (v := (-1)) hx hb hr (fun t ht _ => ⟨congrArg (fun z => Outcome.returned (some (Value.int z))) h9, ht⟩) (fun _ h => nomatch h) dX2_find_55
      · have n9 : ¬ ct ≤ i := fun h => c9 ((nI_leI (a := ct) (b := i) (by omega) (by omega)).mpr h)
        have b1 := hnm i
        have b2 := htd i
        refine lv_aload_n hx hb dX2_find_12 rfl (lv_at hl 1 rfl) ?_
        refine va_get (D := D) (ci := 2) (v := .ref (adr (k + 1))) (C := RX2) (T := TX2) (N := 5) hx hb hG inG_X2 hown hK hP k (wl_at (by omega) hE0) rfl 0 (by decide) (hG _ g_32) (fun _ h9 => h9) rfl dX2_find_13 ?_
        refine lv_iload hx hb dX2_find_16 (lv_at hl 0 rfl) ?_
        refine wn_iald (j := i) hx hb hK hP (by omega) hE1 (by omega) (by decide) dX2_find_18 ?_
        refine lv_iload_n hx hb dX2_find_19 rfl (lv_at hl 2 rfl) ?_
        refine lv_icmp_ne (tgt := 48) hx hb dX2_find_20 (by decide) (fun c20 => ?_) (fun c20 => ?_)
        · have n20 : ¬ (nm i) = a := fun h => c20 ((nI_eq (a := (nm i)) (b := a) (by omega) (by omega)).mpr h)
          refine lv_iinc (v := nI (i + 1)) (lv' := [(4, .int (nI (i + 1))), (0, .ref (adr k)), (1, .int (nI a)), (2, .int (nI b)), (3, .int v)]) hx hb dX2_find_48 hl (k := 0) rfl (nI_1 _) (by decide) rfl (fun ls hl => ?_)
          refine lv_goto (tgt := 3) hx hb dX2_find_51 (by decide) ?_
          exact ih (i + 1) (by omega) (by omega) (fiB_miss hq (by first | (rw [show decide (nm i = a) = false from by simpa using n20]; rfl) | (rw [show decide (td i = b) = false from by simpa using n31, Bool.and_false]; rfl) | (rw [show decide (vl i = v) = false from by simpa using c42, Bool.and_false]))) ls (lv_sub hl [0, 1, 2, 3, 4] rfl)
        · have n20 : (nm i) = a := (nI_eq (a := (nm i)) (b := a) (by omega) (by omega)).mp c20
          refine lv_aload_n hx hb dX2_find_23 rfl (lv_at hl 1 rfl) ?_
          refine va_get (D := D) (ci := 2) (v := .ref (adr (k + 2))) (C := RX2) (T := TX2) (N := 5) hx hb hG inG_X2 hown hK hP k (wl_at (by omega) hE0) rfl 1 (by decide) (hG _ g_34) (fun _ h9 => h9) rfl dX2_find_24 ?_
          refine lv_iload hx hb dX2_find_27 (lv_at hl 0 rfl) ?_
          refine wn_iald (j := i) hx hb hK hP (by omega) hE2 (by omega) (by decide) dX2_find_29 ?_
          refine lv_iload_n hx hb dX2_find_30 rfl (lv_at hl 3 rfl) ?_
          refine lv_icmp_ne (tgt := 48) hx hb dX2_find_31 (by decide) (fun c31 => ?_) (fun c31 => ?_)
          · have n31 : ¬ (td i) = b := fun h => c31 ((nI_eq (a := (td i)) (b := b) (by omega) (by omega)).mpr h)
            refine lv_iinc (v := nI (i + 1)) (lv' := [(4, .int (nI (i + 1))), (0, .ref (adr k)), (1, .int (nI a)), (2, .int (nI b)), (3, .int v)]) hx hb dX2_find_48 hl (k := 0) rfl (nI_1 _) (by decide) rfl (fun ls hl => ?_)
            refine lv_goto (tgt := 3) hx hb dX2_find_51 (by decide) ?_
            exact ih (i + 1) (by omega) (by omega) (fiB_miss hq (by first | (rw [show decide (nm i = a) = false from by simpa using n20]; rfl) | (rw [show decide (td i = b) = false from by simpa using n31, Bool.and_false]; rfl) | (rw [show decide (vl i = v) = false from by simpa using c42, Bool.and_false]))) ls (lv_sub hl [0, 1, 2, 3, 4] rfl)
          · have n31 : (td i) = b := (nI_eq (a := (td i)) (b := b) (by omega) (by omega)).mp c31
            refine lv_aload_n hx hb dX2_find_34 rfl (lv_at hl 1 rfl) ?_
            refine va_get (D := D) (ci := 2) (v := .ref (adr (k + 3))) (C := RX2) (T := TX2) (N := 5) hx hb hG inG_X2 hown hK hP k (wl_at (by omega) hE0) rfl 2 (by decide) (hG _ g_36) (fun _ h9 => h9) rfl dX2_find_35 ?_
            refine lv_iload hx hb dX2_find_38 (lv_at hl 0 rfl) ?_
            refine wn_iald (j := i) hx hb hK hP (by omega) hE3 (by omega) (by decide) dX2_find_40 ?_
            refine lv_iload_n hx hb dX2_find_41 rfl (lv_at hl 4 rfl) ?_
            refine lv_icmp_ne (tgt := 48) hx hb dX2_find_42 (by decide) (fun c42 => ?_) (fun c42 => ?_)
            · refine lv_iinc (v := nI (i + 1)) (lv' := [(4, .int (nI (i + 1))), (0, .ref (adr k)), (1, .int (nI a)), (2, .int (nI b)), (3, .int v)]) hx hb dX2_find_48 hl (k := 0) rfl (nI_1 _) (by decide) rfl (fun ls hl => ?_)
              refine lv_goto (tgt := 3) hx hb dX2_find_51 (by decide) ?_
              exact ih (i + 1) (by omega) (by omega) (fiB_miss hq (by first | (rw [show decide (nm i = a) = false from by simpa using n20]; rfl) | (rw [show decide (td i = b) = false from by simpa using n31, Bool.and_false]; rfl) | (rw [show decide (vl i = v) = false from by simpa using c42, Bool.and_false]))) ls (lv_sub hl [0, 1, 2, 3, 4] rfl)
            · refine lv_iload hx hb dX2_find_45 (lv_at hl 0 rfl) ?_
              have h9 : (nI i : Int32) = oI (fiB (fun j => decide (nm j = a) && decide (td j = b) && decide (vl j = v)) ct) := by rw [fiB_hit (P := fun j => decide (nm j = a) && decide (td j = b) && decide (vl j = v)) hq (by rw [show decide (nm i = a) = true from by simpa using n20, show decide (td i = b) = true from by simpa using n31, show decide (vl i = v) = true from by simpa using c42]; rfl) (by omega : i < ct)]; rfl
              exact W.iret (v := nI i) hx hb hr (fun t ht _ => ⟨congrArg (fun z => Outcome.returned (some (Value.int z))) h9, ht⟩) (fun _ h => nomatch h) dX2_find_47
  exact L3 (ct + 1) 0 (by omega) (by omega) rfl ls (lv_sub hl [0, 1, 2, 3, 4] rfl)

set_option maxHeartbeats 4000000 in
set_option maxRecDepth 100000 in
/-- Tellings.findKth -/
theorem cX2_findKth_r {l : Launch} {D : va_G} {cA : Nat → ClassId} {adr : Nat → Nat} {n : Nat} {E : Nat → va_E} {k ct : Nat} {nm td : Nat → Nat} {vl : Nat → Int32} {sd : Nat → Bool} (hk : k + 4 < n) (hct : ct ≤ 120) (hE0 : E k = .inr (2, [.ref (adr (k + 1)), .ref (adr (k + 2)), .ref (adr (k + 3)), .ref (adr (k + 4)), .int (nI ct)])) (hE1 : E (k + 1) = .inl (cA 0, 120, .inl (fun j => nI (nm j)))) (hE2 : E (k + 2) = .inl (cA 0, 120, .inl (fun j => nI (td j)))) (hE3 : E (k + 3) = .inl (cA 0, 120, .inl vl)) (hE4 : E (k + 4) = .inl (cA 1, 120, .inl (fun j => bI (sd j)))) (hnm : ∀ j, nm j < 2560) (htd : ∀ j, td j < 2 ^ 30) {a q : Nat} (ha : a < 2 ^ 31) (hq2 : q < 2 ^ 31) : Met l yX2_findKth (.code yX2_findKth cX2_findKth 5 (some .int) :: lw_G) ({ frames := 0, cells := 0, slots := 0, locals := 0 } : Room) (va_Pc [.ref (adr k), .int (nI a), .int (nI q)] (wdU D (kty cA) adr n E)) (QcRead (oI (fiB (fun j => decide (nm j = a) && decide (ctB (fun j => decide (nm j = a)) j = q)) ct))) 0 0 (fun _ => False) := by
  refine Met.ofW (cc := cX2_findKth) (maxL := 5) (ret := (some .int)) (by decide) rfl ?_
  intro p e s m args below meth c s₁ B hml hv
  obtain ⟨rfl, hP, hN⟩ := hv
  have hx := B.exec
  have hb := B.bytes
  have hr := B.returns
  have hG : ∀ w ∈ lw_G, w.before _ s = true := fun w h => atoms_spec (ws := _ :: lw_G) B.pre w (List.mem_cons_of_mem _ h)
  have hown : s.vm.findClass RX2 = some m.cls := findClass_of_methodNamed B.named
  have hlocks := B.notSynchronized
  have hK := hN.1
  have hl := lv_entry ([.ref (adr k), .int (nI a), .int (nI q)]) (n := 5) (Nat.le_of_ble_eq_true rfl)
  rw [lg_entry_eq]
  generalize (lg_sl ([.ref (adr k), .int (nI a), .int (nI q)]) ++ List.replicate (5 - (lg_sl ([.ref (adr k), .int (nI a), .int (nI q)])).length) Slot.unset).toArray = ls at hl ⊢
  have hl : lv_has ls 5 [(0, .ref (adr k)), (1, .int (nI a)), (2, .int (nI q))] := hl
  refine lv_iload_n hx hb dX2_findKth_0 rfl (lv_at hl 2 rfl) ?_
  refine lv_istore_n (lv' := [(3, .int (nI q)), (0, .ref (adr k)), (1, .int (nI a)), (2, .int (nI q))]) hx hb dX2_findKth_1 rfl hl (by decide) rfl (fun ls hl => ?_)
  refine lv_iconst (v := 0) hx hb dX2_findKth_2 (by decide) ?_
  refine lv_istore (lv' := [(4, .int 0), (3, .int (nI q)), (0, .ref (adr k)), (1, .int (nI a)), (2, .int (nI q))]) hx hb dX2_findKth_3 hl (by decide) rfl (fun ls hl => ?_)
  have L5 : ∀ (f : Nat) (i : Nat), ct - i < f → i ≤ ct → ctB (fun j => decide (nm j = a)) i ≤ q → fiB (fun j => decide (nm j = a) && decide (ctB (fun j => decide (nm j = a)) j = q)) i = none → ∀ ls : Array Slot, lv_has ls 5 [(4, .int (nI i)), (3, .int (nI (q - ctB (fun j => decide (nm j = a)) i))), (0, .ref (adr k)), (1, .int (nI a)), (2, .int (nI q))] → W p l e (headSpec (.code yX2_findKth cX2_findKth 5 (some .int) :: lw_G) ({ frames := 0, cells := 0, slots := 0, locals := 0 } : Room)).room s m [.ref (adr k), .int (nI a), .int (nI q)].toArray below meth c s.heap [] 0 0 (MQ below (QcRead (oI (fiB (fun j => decide (nm j = a) && decide (ctB (fun j => decide (nm j = a)) j = q)) ct))) [.ref (adr k), .int (nI a), .int (nI q)].toArray s 0 0 (fun _ => False)) (F0 m 5 ls []) := by
    intro f
    induction f with
    | zero => intro i h0; exact absurd h0 (by omega)
    | succ f ih =>
      intro i hf hi hc hq ls hl
      refine lv_iload hx hb dX2_findKth_5 (lv_at hl 0 rfl) ?_
      refine lv_aload_n hx hb dX2_findKth_7 rfl (lv_at hl 2 rfl) ?_
      refine va_get (D := D) (ci := 2) (v := .int (nI ct)) (C := RX2) (T := TX2) (N := 5) hx hb hG inG_X2 hown hK hP k (wl_at (by omega) hE0) rfl 4 (by decide) (hG _ g_40) (fun _ h9 => h9) rfl dX2_findKth_8 ?_
      refine lv_icmp_ge (tgt := 41) hx hb dX2_findKth_11 (by decide) (fun c11 => ?_) (fun c11 => ?_)
      · have n11 : ct ≤ i := (nI_leI (a := ct) (b := i) (by omega) (by omega)).mp c11
        refine lv_iconst (v := (-1)) hx hb dX2_findKth_41 (by decide) ?_
        have h9 : ((-1) : Int32) = oI (fiB (fun j => decide (nm j = a) && decide (ctB (fun j => decide (nm j = a)) j = q)) ct) := by rw [show ct = i from by omega, hq]; rfl
        exact W.iret (v := (-1)) hx hb hr (fun t ht _ => ⟨congrArg (fun z => Outcome.returned (some (Value.int z))) h9, ht⟩) (fun _ h => nomatch h) dX2_findKth_42
      · have n11 : ¬ ct ≤ i := fun h => c11 ((nI_leI (a := ct) (b := i) (by omega) (by omega)).mpr h)
        have b1 := hnm i
        refine lv_aload_n hx hb dX2_findKth_14 rfl (lv_at hl 2 rfl) ?_
        refine va_get (D := D) (ci := 2) (v := .ref (adr (k + 1))) (C := RX2) (T := TX2) (N := 5) hx hb hG inG_X2 hown hK hP k (wl_at (by omega) hE0) rfl 0 (by decide) (hG _ g_32) (fun _ h9 => h9) rfl dX2_findKth_15 ?_
        refine lv_iload hx hb dX2_findKth_18 (lv_at hl 0 rfl) ?_
        refine wn_iald (j := i) hx hb hK hP (by omega) hE1 (by omega) (by decide) dX2_findKth_20 ?_
        refine lv_iload_n hx hb dX2_findKth_21 rfl (lv_at hl 3 rfl) ?_
        refine lv_icmp_ne (tgt := 35) hx hb dX2_findKth_22 (by decide) (fun c22 => ?_) (fun c22 => ?_)
        · have n22 : ¬ (nm i) = a := fun h => c22 ((nI_eq (a := (nm i)) (b := a) (by omega) (by omega)).mpr h)
          have hcs : ctB (fun j => decide (nm j = a)) (i + 1) = ctB (fun j => decide (nm j = a)) i := ctB_f (by simpa using n22)
          rw [← hcs] at hl
          refine lv_iinc (v := nI (i + 1)) (lv' := [(4, .int (nI (i + 1))), (3, .int (nI (q - ctB (fun j => decide (nm j = a)) (i + 1)))), (0, .ref (adr k)), (1, .int (nI a)), (2, .int (nI q))]) hx hb dX2_findKth_35 hl (k := 0) rfl (nI_1 _) (by decide) rfl (fun ls hl => ?_)
          refine lv_goto (tgt := 5) hx hb dX2_findKth_38 (by decide) ?_
          exact ih (i + 1) (by omega) (by omega) (by omega) (fiB_miss hq (by rw [show decide (nm i = a) = false from by simpa using n22]; rfl)) ls (lv_sub hl [0, 1, 2, 3, 4] rfl)
        · have n22 : (nm i) = a := (nI_eq (a := (nm i)) (b := a) (by omega) (by omega)).mp c22
          have hcs : ctB (fun j => decide (nm j = a)) (i + 1) = ctB (fun j => decide (nm j = a)) i + 1 := ctB_t (by simpa using n22)
          refine lv_iload_n hx hb dX2_findKth_25 rfl (lv_at hl 1 rfl) ?_
          refine lv_if_ne (tgt := 32) hx hb dX2_findKth_26 (by decide) (fun c26 => ?_) (fun c26 => ?_)
          · have n26 : ¬ (q - ctB (fun j => decide (nm j = a)) i) = 0 := fun h => c26 ((nI_eq (a := (q - ctB (fun j => decide (nm j = a)) i)) (b := 0) (by omega) (by omega)).mpr h)
            refine lv_iinc (v := nI (q - ctB (fun j => decide (nm j = a)) (i + 1))) (lv' := [(3, .int (nI (q - ctB (fun j => decide (nm j = a)) (i + 1)))), (4, .int (nI i)), (0, .ref (adr k)), (1, .int (nI a)), (2, .int (nI q))]) hx hb dX2_findKth_32 hl (k := 1) rfl (by rw [hcs]; obtain ⟨z, hz⟩ : ∃ z, q - ctB (fun j => decide (nm j = a)) i = z + 1 := ⟨q - ctB (fun j => decide (nm j = a)) i - 1, by omega⟩; rw [hz, show q - (ctB (fun j => decide (nm j = a)) i + 1) = z from by omega]; exact pk_m1 z) (by decide) rfl (fun ls hl => ?_)
            refine lv_iinc (v := nI (i + 1)) (lv' := [(4, .int (nI (i + 1))), (3, .int (nI (q - ctB (fun j => decide (nm j = a)) (i + 1)))), (0, .ref (adr k)), (1, .int (nI a)), (2, .int (nI q))]) hx hb dX2_findKth_35 hl (k := 1) rfl (nI_1 _) (by decide) rfl (fun ls hl => ?_)
            refine lv_goto (tgt := 5) hx hb dX2_findKth_38 (by decide) ?_
            exact ih (i + 1) (by omega) (by omega) (by omega) (fiB_miss hq (by rw [show decide (ctB (fun j => decide (nm j = a)) i = q) = false from by simp; omega, Bool.and_false])) ls (lv_sub hl [0, 1, 2, 3, 4] rfl)
          · have n26 : (q - ctB (fun j => decide (nm j = a)) i) = 0 := (nI_eq (a := (q - ctB (fun j => decide (nm j = a)) i)) (b := 0) (by omega) (by omega)).mp c26
            refine lv_iload hx hb dX2_findKth_29 (lv_at hl 0 rfl) ?_
            have h9 : (nI i : Int32) = oI (fiB (fun j => decide (nm j = a) && decide (ctB (fun j => decide (nm j = a)) j = q)) ct) := by rw [fiB_hit (P := fun j => decide (nm j = a) && decide (ctB (fun j => decide (nm j = a)) j = q)) hq (by rw [show decide (nm i = a) = true from by simpa using n22, show decide (ctB (fun j => decide (nm j = a)) i = q) = true from by simp; omega]; rfl) (by omega : i < ct)]; rfl
            exact W.iret (v := nI i) hx hb hr (fun t ht _ => ⟨congrArg (fun z => Outcome.returned (some (Value.int z))) h9, ht⟩) (fun _ h => nomatch h) dX2_findKth_31
  exact L5 (ct + 1) 0 (by omega) (by omega) (Nat.zero_le _) rfl ls (lv_sub hl [0, 1, 2, 3, 4] rfl)

set_option maxHeartbeats 4000000 in
set_option maxRecDepth 100000 in
theorem cX1_marksUpTo_r {l : Launch} {D : va_G} {cA : Nat → ClassId} {adr : Nat → Nat} {n : Nat} {E : Nat → va_E} {k mk lf : Nat} {ow re : Nat → Int32} (hk : k + 2 < n) (hm : mk ≤ 6) (hE0 : E k = .inr (1, [.ref (adr (k + 1)), .ref (adr (k + 2)), .int (nI mk), .int (nI lf)])) (hE1 : E (k + 1) = .inl (cA 0, 6, .inl ow)) (hE2 : E (k + 2) = .inl (cA 0, 6, .inl re)) (x : Int32) : Met l yX1_marksUpTo (.code yX1_marksUpTo cX1_marksUpTo 3 (some .int) :: lw_G) ({ frames := 0, cells := 0, slots := 0, locals := 0 } : Room) (va_Pc [.ref (adr k), .int x] (wdU D (kty cA) adr n E)) (QcRead (nI (mu ow x mk))) 0 0 (fun _ => False) := by
  refine Met.ofW (cc := cX1_marksUpTo) (maxL := 3) (ret := (some .int)) (by decide) rfl ?_
  intro p e s m args below meth c s₁ B hml hv
  obtain ⟨rfl, hP, hN⟩ := hv
  have hx := B.exec
  have hb := B.bytes
  have hr := B.returns
  have hG : ∀ w ∈ lw_G, w.before _ s = true := fun w h => atoms_spec (ws := _ :: lw_G) B.pre w (List.mem_cons_of_mem _ h)
  have hown : s.vm.findClass RX1 = some m.cls := findClass_of_methodNamed B.named
  have hlocks := B.notSynchronized
  have hK := hN.1
  have hl := lv_entry ([.ref (adr k), .int x]) (n := 3) (Nat.le_of_ble_eq_true rfl)
  rw [lg_entry_eq]
  generalize (lg_sl ([.ref (adr k), .int x]) ++ List.replicate (3 - (lg_sl ([.ref (adr k), .int x])).length) Slot.unset).toArray = ls at hl ⊢
  have hl : lv_has ls 3 [(0, .ref (adr k)), (1, .int x)] := hl
  refine lv_iconst (v := 0) hx hb dX1_marksUpTo_0 (by decide) ?_
  refine lv_istore_n (lv' := [(2, .int 0), (0, .ref (adr k)), (1, .int x)]) hx hb dX1_marksUpTo_1 rfl hl (by decide) rfl (fun ls hl => ?_)
  have L2 : ∀ (f : Nat) (i : Nat), mk - i < f → i ≤ mk → mu ow x i = i → ∀ ls : Array Slot, lv_has ls 3 [(2, .int (nI i)), (0, .ref (adr k)), (1, .int x)] → W p l e (headSpec (.code yX1_marksUpTo cX1_marksUpTo 3 (some .int) :: lw_G) ({ frames := 0, cells := 0, slots := 0, locals := 0 } : Room)).room s m [.ref (adr k), .int x].toArray below meth c s.heap [] 0 0 (MQ below (QcRead (nI (mu ow x mk))) [.ref (adr k), .int x].toArray s 0 0 (fun _ => False)) (F0 m 2 ls []) := by
    intro f
    induction f with
    | zero => intro i h0; exact absurd h0 (by omega)
    | succ f ih =>
      intro i hf hi hq ls hl
      refine lv_iload_n hx hb dX1_marksUpTo_2 rfl (lv_at hl 0 rfl) ?_
      refine lv_aload_n hx hb dX1_marksUpTo_3 rfl (lv_at hl 1 rfl) ?_
      refine va_get (D := D) (ci := 1) (v := .int (nI mk)) (C := RX1) (T := TX1) (N := 4) hx hb hG inG_X1 hown hK hP k (wl_at (by omega) hE0) rfl 2 (by decide) (hG _ g_62) (fun _ h9 => h9) rfl dX1_marksUpTo_4 ?_
      refine lv_icmp_ge (tgt := 26) hx hb dX1_marksUpTo_7 (by decide) (fun c7 => ?_) (fun c7 => ?_)
      · have n7 : mk ≤ i := (nI_leI (a := mk) (b := i) (by omega) (by omega)).mp c7
        refine lv_iload_n hx hb dX1_marksUpTo_26 rfl (lv_at hl 0 rfl) ?_
        have h9 : (nI i : Int32) = nI (mu ow x mk) := by first | (rw [mu_stop hq (by simpa using c17) hi]) | (rw [show mk = i from by omega, hq])
        exact W.iret (v := nI i) hx hb hr (fun t ht _ => ⟨congrArg (fun z => Outcome.returned (some (Value.int z))) h9, ht⟩) (fun _ h => nomatch h) dX1_marksUpTo_27
      · have n7 : ¬ mk ≤ i := fun h => c7 ((nI_leI (a := mk) (b := i) (by omega) (by omega)).mpr h)
        refine lv_aload_n hx hb dX1_marksUpTo_10 rfl (lv_at hl 1 rfl) ?_
        refine va_get (D := D) (ci := 1) (v := .ref (adr (k + 1))) (C := RX1) (T := TX1) (N := 4) hx hb hG inG_X1 hown hK hP k (wl_at (by omega) hE0) rfl 0 (by decide) (hG _ g_60) (fun _ h9 => h9) rfl dX1_marksUpTo_11 ?_
        refine lv_iload_n hx hb dX1_marksUpTo_14 rfl (lv_at hl 0 rfl) ?_
        refine wn_iald (j := i) hx hb hK hP (by omega) hE1 (by omega) (by decide) dX1_marksUpTo_15 ?_
        refine lv_iload_n hx hb dX1_marksUpTo_16 rfl (lv_at hl 2 rfl) ?_
        refine lv_icmp_gt (tgt := 26) hx hb dX1_marksUpTo_17 (by decide) (fun c17 => ?_) (fun c17 => ?_)
        · refine lv_iload_n hx hb dX1_marksUpTo_26 rfl (lv_at hl 0 rfl) ?_
          have h9 : (nI i : Int32) = nI (mu ow x mk) := by first | (rw [mu_stop hq (by simpa using c17) hi]) | (rw [show mk = i from by omega, hq])
          exact W.iret (v := nI i) hx hb hr (fun t ht _ => ⟨congrArg (fun z => Outcome.returned (some (Value.int z))) h9, ht⟩) (fun _ h => nomatch h) dX1_marksUpTo_27
        · refine lv_iinc (v := nI (i + 1)) (lv' := [(2, .int (nI (i + 1))), (0, .ref (adr k)), (1, .int x)]) hx hb dX1_marksUpTo_20 hl (k := 0) rfl (nI_1 _) (by decide) rfl (fun ls hl => ?_)
          refine lv_goto (tgt := 2) hx hb dX1_marksUpTo_23 (by decide) ?_
          exact ih (i + 1) (by omega) (by omega) (mu_step hq (by simpa using c17)) ls (lv_sub hl [0, 1, 2] rfl)
  exact L2 (mk + 1) 0 (by omega) (by omega) rfl ls (lv_sub hl [0, 1, 2] rfl)

set_option maxHeartbeats 4000000 in
set_option maxRecDepth 100000 in
theorem cX1_realBetween_r {l : Launch} {D : va_G} {cA : Nat → ClassId} {adr : Nat → Nat} {n : Nat} {E : Nat → va_E} {k mk lf : Nat} {ow re : Nat → Int32} (hk : k + 2 < n) (hm : mk ≤ 6) (hE0 : E k = .inr (1, [.ref (adr (k + 1)), .ref (adr (k + 2)), .int (nI mk), .int (nI lf)])) (hE1 : E (k + 1) = .inl (cA 0, 6, .inl ow)) (hE2 : E (k + 2) = .inl (cA 0, 6, .inl re)) {j : Nat} (hj : j + 1 < 6) (x : Int32) : Met l yX1_realBetween (.code yX1_realBetween cX1_realBetween 6 (some .int) :: lw_G) ({ frames := 0, cells := 0, slots := 0, locals := 0 } : Room) (va_Pc [.ref (adr k), .int (nI j), .int x] (wdU D (kty cA) adr n E)) (QcRead (rb ow re j x)) 0 0 (fun _ => False) := by
  refine Met.ofW (cc := cX1_realBetween) (maxL := 6) (ret := (some .int)) (by decide) rfl ?_
  intro p e s m args below meth c s₁ B hml hv
  obtain ⟨rfl, hP, hN⟩ := hv
  have hx := B.exec
  have hb := B.bytes
  have hr := B.returns
  have hG : ∀ w ∈ lw_G, w.before _ s = true := fun w h => atoms_spec (ws := _ :: lw_G) B.pre w (List.mem_cons_of_mem _ h)
  have hown : s.vm.findClass RX1 = some m.cls := findClass_of_methodNamed B.named
  have hlocks := B.notSynchronized
  have hK := hN.1
  have hl := lv_entry ([.ref (adr k), .int (nI j), .int x]) (n := 6) (Nat.le_of_ble_eq_true rfl)
  rw [lg_entry_eq]
  generalize (lg_sl ([.ref (adr k), .int (nI j), .int x]) ++ List.replicate (6 - (lg_sl ([.ref (adr k), .int (nI j), .int x])).length) Slot.unset).toArray = ls at hl ⊢
  have hl : lv_has ls 6 [(0, .ref (adr k)), (1, .int (nI j)), (2, .int x)] := hl
  refine lv_aload_n hx hb dX1_realBetween_0 rfl (lv_at hl 0 rfl) ?_
  refine va_get (D := D) (ci := 1) (v := .ref (adr (k + 1))) (C := RX1) (T := TX1) (N := 4) hx hb hG inG_X1 hown hK hP k (wl_at (by omega) hE0) rfl 0 (by decide) (hG _ g_60) (fun _ h9 => h9) rfl dX1_realBetween_1 ?_
  refine lv_iload_n hx hb dX1_realBetween_4 rfl (lv_at hl 1 rfl) ?_
  refine lv_iconst (v := 1) hx hb dX1_realBetween_5 (by decide) ?_
  refine lv_iadd hx hb dX1_realBetween_6 ?_
  refine lv_topi (fun y9 e9 => ?_)
  have e9 : y9 = nI (j + 1) := e9.trans (nI_1 j)
  subst e9
  refine wn_iald (j := (j + 1)) hx hb hK hP (by omega) hE1 (by omega) (by decide) dX1_realBetween_7 ?_
  refine lv_aload_n hx hb dX1_realBetween_8 rfl (lv_at hl 0 rfl) ?_
  refine va_get (D := D) (ci := 1) (v := .ref (adr (k + 1))) (C := RX1) (T := TX1) (N := 4) hx hb hG inG_X1 hown hK hP k (wl_at (by omega) hE0) rfl 0 (by decide) (hG _ g_60) (fun _ h9 => h9) rfl dX1_realBetween_9 ?_
  refine lv_iload_n hx hb dX1_realBetween_12 rfl (lv_at hl 1 rfl) ?_
  refine wn_iald (j := j) hx hb hK hP (by omega) hE1 (by omega) (by decide) dX1_realBetween_13 ?_
  refine lv_isub hx hb dX1_realBetween_14 ?_
  refine lv_istore_n (lv' := [(3, .int ((ow (j + 1)) - (ow j))), (0, .ref (adr k)), (1, .int (nI j)), (2, .int x)]) hx hb dX1_realBetween_15 rfl hl (by decide) rfl (fun ls hl => ?_)
  refine lv_iload_n hx hb dX1_realBetween_16 rfl (lv_at hl 0 rfl) ?_
  refine lv_if_gt (tgt := 27) hx hb dX1_realBetween_17 (by decide) (fun c17 => ?_) (fun c17 => ?_)
  · refine lv_aload_n hx hb dX1_realBetween_27 rfl (lv_at hl 1 rfl) ?_
    refine va_get (D := D) (ci := 1) (v := .ref (adr (k + 2))) (C := RX1) (T := TX1) (N := 4) hx hb hG inG_X1 hown hK hP k (wl_at (by omega) hE0) rfl 1 (by decide) (hG _ g_61) (fun _ h9 => h9) rfl dX1_realBetween_28 ?_
    refine lv_iload_n hx hb dX1_realBetween_31 rfl (lv_at hl 2 rfl) ?_
    refine lv_iconst (v := 1) hx hb dX1_realBetween_32 (by decide) ?_
    refine lv_iadd hx hb dX1_realBetween_33 ?_
    refine lv_topi (fun y9 e9 => ?_)
    have e9 : y9 = nI (j + 1) := e9.trans (nI_1 j)
    subst e9
    refine wn_iald (j := (j + 1)) hx hb hK hP (by omega) hE2 (by omega) (by decide) dX1_realBetween_34 ?_
    refine lv_aload_n hx hb dX1_realBetween_35 rfl (lv_at hl 1 rfl) ?_
    refine va_get (D := D) (ci := 1) (v := .ref (adr (k + 2))) (C := RX1) (T := TX1) (N := 4) hx hb hG inG_X1 hown hK hP k (wl_at (by omega) hE0) rfl 1 (by decide) (hG _ g_61) (fun _ h9 => h9) rfl dX1_realBetween_36 ?_
    refine lv_iload_n hx hb dX1_realBetween_39 rfl (lv_at hl 2 rfl) ?_
    refine wn_iald (j := j) hx hb hK hP (by omega) hE2 (by omega) (by decide) dX1_realBetween_40 ?_
    refine lv_isub hx hb dX1_realBetween_41 ?_
    refine lv_i2l (v := ((re (j + 1)) - (re j)).toInt64) hx hb dX1_realBetween_42 rfl ?_
    refine lv_lstore (lv' := [(4, .long (((re (j + 1)) - (re j)).toInt64)), (3, .int ((ow (j + 1)) - (ow j))), (0, .ref (adr k)), (1, .int (nI j)), (2, .int x)]) hx hb dX1_realBetween_43 hl (by decide) rfl (fun ls hl => ?_)
    refine lv_aload_n hx hb dX1_realBetween_45 rfl (lv_at hl 2 rfl) ?_
    refine va_get (D := D) (ci := 1) (v := .ref (adr (k + 2))) (C := RX1) (T := TX1) (N := 4) hx hb hG inG_X1 hown hK hP k (wl_at (by omega) hE0) rfl 1 (by decide) (hG _ g_61) (fun _ h9 => h9) rfl dX1_realBetween_46 ?_
    refine lv_iload_n hx hb dX1_realBetween_49 rfl (lv_at hl 3 rfl) ?_
    refine wn_iald (j := j) hx hb hK hP (by omega) hE2 (by omega) (by decide) dX1_realBetween_50 ?_
    refine lv_lload hx hb dX1_realBetween_51 (lv_at hl 0 rfl) ?_
    refine lv_iload_n hx hb dX1_realBetween_53 rfl (lv_at hl 4 rfl) ?_
    refine lv_aload_n hx hb dX1_realBetween_54 rfl (lv_at hl 2 rfl) ?_
    refine va_get (D := D) (ci := 1) (v := .ref (adr (k + 1))) (C := RX1) (T := TX1) (N := 4) hx hb hG inG_X1 hown hK hP k (wl_at (by omega) hE0) rfl 0 (by decide) (hG _ g_60) (fun _ h9 => h9) rfl dX1_realBetween_55 ?_
    refine lv_iload_n hx hb dX1_realBetween_58 rfl (lv_at hl 3 rfl) ?_
    refine wn_iald (j := j) hx hb hK hP (by omega) hE1 (by omega) (by decide) dX1_realBetween_59 ?_
    refine lv_isub hx hb dX1_realBetween_60 ?_
    refine lv_i2l (v := (x - (ow j)).toInt64) hx hb dX1_realBetween_61 rfl ?_
    refine lv_lmul hx hb dX1_realBetween_62 ?_
    refine lv_iload_n hx hb dX1_realBetween_63 rfl (lv_at hl 1 rfl) ?_
    refine lv_i2l (v := ((ow (j + 1)) - (ow j)).toInt64) hx hb dX1_realBetween_64 rfl ?_
    refine lv_ldiv hx hb dX1_realBetween_65 (i64_ne c17) ?_
    refine lv_l2i (v := (((((re (j + 1)) - (re j)).toInt64) * ((x - (ow j)).toInt64)) / (((ow (j + 1)) - (ow j)).toInt64)).toInt32) hx hb dX1_realBetween_66 rfl ?_
    refine lv_iadd hx hb dX1_realBetween_67 ?_
    have h9 : ((re j) + ((((((re (j + 1)) - (re j)).toInt64) * ((x - (ow j)).toInt64)) / (((ow (j + 1)) - (ow j)).toInt64)).toInt32) : Int32) = rb ow re j x := by unfold rb; first | (rw [if_pos c17]; done) | (rw [if_neg c17]; done)
    exact W.iret (v := (re j) + ((((((re (j + 1)) - (re j)).toInt64) * ((x - (ow j)).toInt64)) / (((ow (j + 1)) - (ow j)).toInt64)).toInt32)) hx hb hr (fun t ht _ => ⟨congrArg (fun z => Outcome.returned (some (Value.int z))) h9, ht⟩) (fun _ h => nomatch h) dX1_realBetween_68
  · refine lv_aload_n hx hb dX1_realBetween_20 rfl (lv_at hl 1 rfl) ?_
    refine va_get (D := D) (ci := 1) (v := .ref (adr (k + 2))) (C := RX1) (T := TX1) (N := 4) hx hb hG inG_X1 hown hK hP k (wl_at (by omega) hE0) rfl 1 (by decide) (hG _ g_61) (fun _ h9 => h9) rfl dX1_realBetween_21 ?_
    refine lv_iload_n hx hb dX1_realBetween_24 rfl (lv_at hl 2 rfl) ?_
    refine wn_iald (j := j) hx hb hK hP (by omega) hE2 (by omega) (by decide) dX1_realBetween_25 ?_
    have h9 : (re j : Int32) = rb ow re j x := by unfold rb; first | (rw [if_pos c17]; done) | (rw [if_neg c17]; done)
    exact W.iret (v := re j) hx hb hr (fun t ht _ => ⟨congrArg (fun z => Outcome.returned (some (Value.int z))) h9, ht⟩) (fun _ h => nomatch h) dX1_realBetween_26

set_option maxHeartbeats 4000000 in
set_option maxRecDepth 100000 in
theorem cX1_realTime_r {l : Launch} {D : va_G} {cA : Nat → ClassId} {adr : Nat → Nat} {n : Nat} {E : Nat → va_E} {k mk lf : Nat} {ow re : Nat → Int32} (hk : k + 2 < n) (hm : mk ≤ 6) (hE0 : E k = .inr (1, [.ref (adr (k + 1)), .ref (adr (k + 2)), .int (nI mk), .int (nI lf)])) (hE1 : E (k + 1) = .inl (cA 0, 6, .inl ow)) (hE2 : E (k + 2) = .inl (cA 0, 6, .inl re)) (x : Int32) : Met l yX1_realTime (.code yX1_realTime cX1_realTime 4 (some .int) :: lw_G) ({ frames := 1, cells := 0, slots := 0, locals := 25 } : Room) (va_Pc [.ref (adr k), .int x] (wdU D (kty cA) adr n E)) (QcRead (rt mk ow re x)) 0 0 (fun _ => False) := by
  refine Met.ofW (cc := cX1_realTime) (maxL := 4) (ret := (some .int)) (by decide) rfl ?_
  intro p e s m args below meth c s₁ B hml hv
  obtain ⟨rfl, hP, hN⟩ := hv
  have hx := B.exec
  have hb := B.bytes
  have hr := B.returns
  have hG : ∀ w ∈ lw_G, w.before _ s = true := fun w h => atoms_spec (ws := _ :: lw_G) B.pre w (List.mem_cons_of_mem _ h)
  have hown : s.vm.findClass RX1 = some m.cls := findClass_of_methodNamed B.named
  have hlocks := B.notSynchronized
  have hK := hN.1
  have hl := lv_entry ([.ref (adr k), .int x]) (n := 4) (Nat.le_of_ble_eq_true rfl)
  rw [lg_entry_eq]
  generalize (lg_sl ([.ref (adr k), .int x]) ++ List.replicate (4 - (lg_sl ([.ref (adr k), .int x])).length) Slot.unset).toArray = ls at hl ⊢
  have hl : lv_has ls 4 [(0, .ref (adr k)), (1, .int x)] := hl
  have b0 := mu_le (ow := ow) (x := x) (n := mk)
  refine lv_aload_n hx hb dX1_realTime_0 rfl (lv_at hl 0 rfl) ?_
  refine va_get (D := D) (ci := 1) (v := .int (nI mk)) (C := RX1) (T := TX1) (N := 4) hx hb hG inG_X1 hown hK hP k (wl_at (by omega) hE0) rfl 2 (by decide) (hG _ g_62) (fun _ h9 => h9) rfl dX1_realTime_1 ?_
  refine lv_if_ne (tgt := 9) hx hb dX1_realTime_4 (by decide) (fun c4 => ?_) (fun c4 => ?_)
  · have n4 : ¬ mk = 0 := fun h => c4 ((nI_eq (a := mk) (b := 0) (by omega) (by omega)).mpr h)
    refine lv_aload_n hx hb dX1_realTime_9 rfl (lv_at hl 0 rfl) ?_
    refine lv_iload_n hx hb dX1_realTime_10 rfl (lv_at hl 1 rfl) ?_
    refine wn_rV (rest := []) hx hb hml hown hG hN hP (cX1_marksUpTo_r hk hm hE0 hE1 hE2 x) (cwV 1 hG (gV g_250 g_251 g_252 g_3 g_253) rfl rfl rfl (by decide +kernel) ⟨Nat.le_of_ble_eq_true rfl, Nat.le_of_ble_eq_true rfl⟩) (by omega) hE0 rfl rfl hl.1 rfl (Nat.le_of_ble_eq_true rfl) dX1_realTime_11 ⟨Nat.zero_le _, Nat.zero_le _⟩ ?_
    refine lv_istore_n (lv' := [(2, .int (nI (mu ow x mk))), (0, .ref (adr k)), (1, .int x)]) hx hb dX1_realTime_14 rfl hl (by decide) rfl (fun ls hl => ?_)
    refine lv_iload_n hx hb dX1_realTime_15 rfl (lv_at hl 0 rfl) ?_
    refine lv_if_le (tgt := 36) hx hb dX1_realTime_16 (by decide) (fun c16 => ?_) (fun c16 => ?_)
    · have n16 : (mu ow x mk) ≤ 0 := (nI_leI (a := (mu ow x mk)) (b := 0) (by omega) (by omega)).mp c16
      refine lv_iload_n hx hb dX1_realTime_36 rfl (lv_at hl 0 rfl) ?_
      refine lv_if_ne (tgt := 44) hx hb dX1_realTime_37 (by decide) (fun c37 => ?_) (fun c37 => ?_)
      · have n37 : ¬ (mu ow x mk) = 0 := fun h => c37 ((nI_eq (a := (mu ow x mk)) (b := 0) (by omega) (by omega)).mpr h)
        refine lv_aload_n hx hb dX1_realTime_44 rfl (lv_at hl 1 rfl) ?_
        refine va_get (D := D) (ci := 1) (v := .int (nI mk)) (C := RX1) (T := TX1) (N := 4) hx hb hG inG_X1 hown hK hP k (wl_at (by omega) hE0) rfl 2 (by decide) (hG _ g_62) (fun _ h9 => h9) rfl dX1_realTime_45 ?_
        refine lv_iconst (v := 1) hx hb dX1_realTime_48 (by decide) ?_
        refine lv_isub hx hb dX1_realTime_49 ?_
        refine lv_topi (fun y9 e9 => ?_)
        have e9 : y9 = nI (mk - 1) := e9.trans (by obtain ⟨z, hz⟩ : ∃ z, mk = z + 1 := ⟨mk - 1, by omega⟩; rw [hz]; exact nI_pred z)
        subst e9
        refine lv_istore_n (lv' := [(3, .int (nI (mk - 1))), (2, .int (nI (mu ow x mk))), (0, .ref (adr k)), (1, .int x)]) hx hb dX1_realTime_50 rfl hl (by decide) rfl (fun ls hl => ?_)
        refine lv_iload_n hx hb dX1_realTime_51 rfl (lv_at hl 3 rfl) ?_
        refine lv_aload_n hx hb dX1_realTime_52 rfl (lv_at hl 2 rfl) ?_
        refine va_get (D := D) (ci := 1) (v := .ref (adr (k + 2))) (C := RX1) (T := TX1) (N := 4) hx hb hG inG_X1 hown hK hP k (wl_at (by omega) hE0) rfl 1 (by decide) (hG _ g_61) (fun _ h9 => h9) rfl dX1_realTime_53 ?_
        refine lv_iload_n hx hb dX1_realTime_56 rfl (lv_at hl 0 rfl) ?_
        refine wn_iald (j := (mk - 1)) hx hb hK hP (by omega) hE2 (by omega) (by decide) dX1_realTime_57 ?_
        refine lv_aload_n hx hb dX1_realTime_58 rfl (lv_at hl 2 rfl) ?_
        refine va_get (D := D) (ci := 1) (v := .ref (adr (k + 1))) (C := RX1) (T := TX1) (N := 4) hx hb hG inG_X1 hown hK hP k (wl_at (by omega) hE0) rfl 0 (by decide) (hG _ g_60) (fun _ h9 => h9) rfl dX1_realTime_59 ?_
        refine lv_iload_n hx hb dX1_realTime_62 rfl (lv_at hl 0 rfl) ?_
        refine wn_iald (j := (mk - 1)) hx hb hK hP (by omega) hE1 (by omega) (by decide) dX1_realTime_63 ?_
        refine lv_isub hx hb dX1_realTime_64 ?_
        refine lv_iadd hx hb dX1_realTime_65 ?_
        have h9 : (x + ((re (mk - 1)) - (ow (mk - 1))) : Int32) = rt mk ow re x := by unfold rt; first | (rw [if_pos (by omega)]; done) | (rw [if_neg (by omega), if_pos (by omega)]; done) | (rw [if_neg (by omega), if_neg (by omega), if_pos (by omega)]; done) | (rw [if_neg (by omega), if_neg (by omega), if_neg (by omega)]; done)
        exact W.iret (v := x + ((re (mk - 1)) - (ow (mk - 1)))) hx hb hr (fun t ht _ => ⟨congrArg (fun z => Outcome.returned (some (Value.int z))) h9, ht⟩) (fun _ h => nomatch h) dX1_realTime_66
      · have n37 : (mu ow x mk) = 0 := (nI_eq (a := (mu ow x mk)) (b := 0) (by omega) (by omega)).mp c37
        refine lv_iconst (v := 0) hx hb dX1_realTime_40 (by decide) ?_
        refine lv_goto (tgt := 50) hx hb dX1_realTime_41 (by decide) ?_
        refine lv_topi (fun y9 e9 => ?_)
        have e9 : y9 = nI 0 := e9.trans (nI_0.symm)
        subst e9
        refine lv_istore_n (lv' := [(3, .int (nI 0)), (2, .int (nI (mu ow x mk))), (0, .ref (adr k)), (1, .int x)]) hx hb dX1_realTime_50 rfl hl (by decide) rfl (fun ls hl => ?_)
        refine lv_iload_n hx hb dX1_realTime_51 rfl (lv_at hl 3 rfl) ?_
        refine lv_aload_n hx hb dX1_realTime_52 rfl (lv_at hl 2 rfl) ?_
        refine va_get (D := D) (ci := 1) (v := .ref (adr (k + 2))) (C := RX1) (T := TX1) (N := 4) hx hb hG inG_X1 hown hK hP k (wl_at (by omega) hE0) rfl 1 (by decide) (hG _ g_61) (fun _ h9 => h9) rfl dX1_realTime_53 ?_
        refine lv_iload_n hx hb dX1_realTime_56 rfl (lv_at hl 0 rfl) ?_
        refine wn_iald (j := 0) hx hb hK hP (by omega) hE2 (by omega) (by decide) dX1_realTime_57 ?_
        refine lv_aload_n hx hb dX1_realTime_58 rfl (lv_at hl 2 rfl) ?_
        refine va_get (D := D) (ci := 1) (v := .ref (adr (k + 1))) (C := RX1) (T := TX1) (N := 4) hx hb hG inG_X1 hown hK hP k (wl_at (by omega) hE0) rfl 0 (by decide) (hG _ g_60) (fun _ h9 => h9) rfl dX1_realTime_59 ?_
        refine lv_iload_n hx hb dX1_realTime_62 rfl (lv_at hl 0 rfl) ?_
        refine wn_iald (j := 0) hx hb hK hP (by omega) hE1 (by omega) (by decide) dX1_realTime_63 ?_
        refine lv_isub hx hb dX1_realTime_64 ?_
        refine lv_iadd hx hb dX1_realTime_65 ?_
        have h9 : (x + ((re 0) - (ow 0)) : Int32) = rt mk ow re x := by unfold rt; first | (rw [if_pos (by omega)]; done) | (rw [if_neg (by omega), if_pos (by omega)]; done) | (rw [if_neg (by omega), if_neg (by omega), if_pos (by omega)]; done) | (rw [if_neg (by omega), if_neg (by omega), if_neg (by omega)]; done)
        exact W.iret (v := x + ((re 0) - (ow 0))) hx hb hr (fun t ht _ => ⟨congrArg (fun z => Outcome.returned (some (Value.int z))) h9, ht⟩) (fun _ h => nomatch h) dX1_realTime_66
    · have n16 : ¬ (mu ow x mk) ≤ 0 := fun h => c16 ((nI_leI (a := (mu ow x mk)) (b := 0) (by omega) (by omega)).mpr h)
      refine lv_iload_n hx hb dX1_realTime_19 rfl (lv_at hl 0 rfl) ?_
      refine lv_aload_n hx hb dX1_realTime_20 rfl (lv_at hl 1 rfl) ?_
      refine va_get (D := D) (ci := 1) (v := .int (nI mk)) (C := RX1) (T := TX1) (N := 4) hx hb hG inG_X1 hown hK hP k (wl_at (by omega) hE0) rfl 2 (by decide) (hG _ g_62) (fun _ h9 => h9) rfl dX1_realTime_21 ?_
      refine lv_icmp_ge (tgt := 36) hx hb dX1_realTime_24 (by decide) (fun c24 => ?_) (fun c24 => ?_)
      · have n24 : mk ≤ (mu ow x mk) := (nI_leI (a := mk) (b := (mu ow x mk)) (by omega) (by omega)).mp c24
        refine lv_iload_n hx hb dX1_realTime_36 rfl (lv_at hl 0 rfl) ?_
        refine lv_if_ne (tgt := 44) hx hb dX1_realTime_37 (by decide) (fun c37 => ?_) (fun c37 => ?_)
        · have n37 : ¬ (mu ow x mk) = 0 := fun h => c37 ((nI_eq (a := (mu ow x mk)) (b := 0) (by omega) (by omega)).mpr h)
          refine lv_aload_n hx hb dX1_realTime_44 rfl (lv_at hl 1 rfl) ?_
          refine va_get (D := D) (ci := 1) (v := .int (nI mk)) (C := RX1) (T := TX1) (N := 4) hx hb hG inG_X1 hown hK hP k (wl_at (by omega) hE0) rfl 2 (by decide) (hG _ g_62) (fun _ h9 => h9) rfl dX1_realTime_45 ?_
          refine lv_iconst (v := 1) hx hb dX1_realTime_48 (by decide) ?_
          refine lv_isub hx hb dX1_realTime_49 ?_
          refine lv_topi (fun y9 e9 => ?_)
          have e9 : y9 = nI (mk - 1) := e9.trans (by obtain ⟨z, hz⟩ : ∃ z, mk = z + 1 := ⟨mk - 1, by omega⟩; rw [hz]; exact nI_pred z)
          subst e9
          refine lv_istore_n (lv' := [(3, .int (nI (mk - 1))), (2, .int (nI (mu ow x mk))), (0, .ref (adr k)), (1, .int x)]) hx hb dX1_realTime_50 rfl hl (by decide) rfl (fun ls hl => ?_)
          refine lv_iload_n hx hb dX1_realTime_51 rfl (lv_at hl 3 rfl) ?_
          refine lv_aload_n hx hb dX1_realTime_52 rfl (lv_at hl 2 rfl) ?_
          refine va_get (D := D) (ci := 1) (v := .ref (adr (k + 2))) (C := RX1) (T := TX1) (N := 4) hx hb hG inG_X1 hown hK hP k (wl_at (by omega) hE0) rfl 1 (by decide) (hG _ g_61) (fun _ h9 => h9) rfl dX1_realTime_53 ?_
          refine lv_iload_n hx hb dX1_realTime_56 rfl (lv_at hl 0 rfl) ?_
          refine wn_iald (j := (mk - 1)) hx hb hK hP (by omega) hE2 (by omega) (by decide) dX1_realTime_57 ?_
          refine lv_aload_n hx hb dX1_realTime_58 rfl (lv_at hl 2 rfl) ?_
          refine va_get (D := D) (ci := 1) (v := .ref (adr (k + 1))) (C := RX1) (T := TX1) (N := 4) hx hb hG inG_X1 hown hK hP k (wl_at (by omega) hE0) rfl 0 (by decide) (hG _ g_60) (fun _ h9 => h9) rfl dX1_realTime_59 ?_
          refine lv_iload_n hx hb dX1_realTime_62 rfl (lv_at hl 0 rfl) ?_
          refine wn_iald (j := (mk - 1)) hx hb hK hP (by omega) hE1 (by omega) (by decide) dX1_realTime_63 ?_
          refine lv_isub hx hb dX1_realTime_64 ?_
          refine lv_iadd hx hb dX1_realTime_65 ?_
          have h9 : (x + ((re (mk - 1)) - (ow (mk - 1))) : Int32) = rt mk ow re x := by unfold rt; first | (rw [if_pos (by omega)]; done) | (rw [if_neg (by omega), if_pos (by omega)]; done) | (rw [if_neg (by omega), if_neg (by omega), if_pos (by omega)]; done) | (rw [if_neg (by omega), if_neg (by omega), if_neg (by omega)]; done)
          exact W.iret (v := x + ((re (mk - 1)) - (ow (mk - 1)))) hx hb hr (fun t ht _ => ⟨congrArg (fun z => Outcome.returned (some (Value.int z))) h9, ht⟩) (fun _ h => nomatch h) dX1_realTime_66
        · have n37 : (mu ow x mk) = 0 := (nI_eq (a := (mu ow x mk)) (b := 0) (by omega) (by omega)).mp c37
          refine lv_iconst (v := 0) hx hb dX1_realTime_40 (by decide) ?_
          refine lv_goto (tgt := 50) hx hb dX1_realTime_41 (by decide) ?_
          refine lv_topi (fun y9 e9 => ?_)
          have e9 : y9 = nI 0 := e9.trans (nI_0.symm)
          subst e9
          refine lv_istore_n (lv' := [(3, .int (nI 0)), (2, .int (nI (mu ow x mk))), (0, .ref (adr k)), (1, .int x)]) hx hb dX1_realTime_50 rfl hl (by decide) rfl (fun ls hl => ?_)
          refine lv_iload_n hx hb dX1_realTime_51 rfl (lv_at hl 3 rfl) ?_
          refine lv_aload_n hx hb dX1_realTime_52 rfl (lv_at hl 2 rfl) ?_
          refine va_get (D := D) (ci := 1) (v := .ref (adr (k + 2))) (C := RX1) (T := TX1) (N := 4) hx hb hG inG_X1 hown hK hP k (wl_at (by omega) hE0) rfl 1 (by decide) (hG _ g_61) (fun _ h9 => h9) rfl dX1_realTime_53 ?_
          refine lv_iload_n hx hb dX1_realTime_56 rfl (lv_at hl 0 rfl) ?_
          refine wn_iald (j := 0) hx hb hK hP (by omega) hE2 (by omega) (by decide) dX1_realTime_57 ?_
          refine lv_aload_n hx hb dX1_realTime_58 rfl (lv_at hl 2 rfl) ?_
          refine va_get (D := D) (ci := 1) (v := .ref (adr (k + 1))) (C := RX1) (T := TX1) (N := 4) hx hb hG inG_X1 hown hK hP k (wl_at (by omega) hE0) rfl 0 (by decide) (hG _ g_60) (fun _ h9 => h9) rfl dX1_realTime_59 ?_
          refine lv_iload_n hx hb dX1_realTime_62 rfl (lv_at hl 0 rfl) ?_
          refine wn_iald (j := 0) hx hb hK hP (by omega) hE1 (by omega) (by decide) dX1_realTime_63 ?_
          refine lv_isub hx hb dX1_realTime_64 ?_
          refine lv_iadd hx hb dX1_realTime_65 ?_
          have h9 : (x + ((re 0) - (ow 0)) : Int32) = rt mk ow re x := by unfold rt; first | (rw [if_pos (by omega)]; done) | (rw [if_neg (by omega), if_pos (by omega)]; done) | (rw [if_neg (by omega), if_neg (by omega), if_pos (by omega)]; done) | (rw [if_neg (by omega), if_neg (by omega), if_neg (by omega)]; done)
          exact W.iret (v := x + ((re 0) - (ow 0))) hx hb hr (fun t ht _ => ⟨congrArg (fun z => Outcome.returned (some (Value.int z))) h9, ht⟩) (fun _ h => nomatch h) dX1_realTime_66
      · have n24 : ¬ mk ≤ (mu ow x mk) := fun h => c24 ((nI_leI (a := mk) (b := (mu ow x mk)) (by omega) (by omega)).mpr h)
        refine lv_aload_n hx hb dX1_realTime_27 rfl (lv_at hl 1 rfl) ?_
        refine lv_iload_n hx hb dX1_realTime_28 rfl (lv_at hl 0 rfl) ?_
        refine lv_iconst (v := 1) hx hb dX1_realTime_29 (by decide) ?_
        refine lv_isub hx hb dX1_realTime_30 ?_
        refine lv_topi (fun y9 e9 => ?_)
        have e9 : y9 = nI (mu ow x mk - 1) := e9.trans (by obtain ⟨z, hz⟩ : ∃ z, mu ow x mk = z + 1 := ⟨mu ow x mk - 1, by omega⟩; rw [hz]; exact nI_pred z)
        subst e9
        refine lv_iload_n hx hb dX1_realTime_31 rfl (lv_at hl 2 rfl) ?_
        refine wn_rV (rest := []) hx hb hml hown hG hN hP (cX1_realBetween_r hk hm hE0 hE1 hE2 (j := mu ow x mk - 1) (by omega) x) (cwV 2 hG (gV g_254 g_255 g_256 g_3 g_257) rfl rfl rfl (by decide +kernel) ⟨Nat.le_of_ble_eq_true rfl, Nat.le_of_ble_eq_true rfl⟩) (by omega) hE0 rfl rfl hl.1 rfl (Nat.le_of_ble_eq_true rfl) dX1_realTime_32 ⟨Nat.zero_le _, Nat.zero_le _⟩ ?_
        have h9 : (rb ow re (mu ow x mk - 1) x : Int32) = rt mk ow re x := by unfold rt; first | (rw [if_pos (by omega)]; done) | (rw [if_neg (by omega), if_pos (by omega)]; done) | (rw [if_neg (by omega), if_neg (by omega), if_pos (by omega)]; done) | (rw [if_neg (by omega), if_neg (by omega), if_neg (by omega)]; done)
        exact W.iret (v := rb ow re (mu ow x mk - 1) x) hx hb hr (fun t ht _ => ⟨congrArg (fun z => Outcome.returned (some (Value.int z))) h9, ht⟩) (fun _ h => nomatch h) dX1_realTime_35
  · have n4 : mk = 0 := (nI_eq (a := mk) (b := 0) (by omega) (by omega)).mp c4
    refine lv_iload_n hx hb dX1_realTime_7 rfl (lv_at hl 1 rfl) ?_
    have h9 : (x : Int32) = rt mk ow re x := by unfold rt; first | (rw [if_pos (by omega)]; done) | (rw [if_neg (by omega), if_pos (by omega)]; done) | (rw [if_neg (by omega), if_neg (by omega), if_pos (by omega)]; done) | (rw [if_neg (by omega), if_neg (by omega), if_neg (by omega)]; done)
    exact W.iret (v := x) hx hb hr (fun t ht _ => ⟨congrArg (fun z => Outcome.returned (some (Value.int z))) h9, ht⟩) (fun _ h => nomatch h) dX1_realTime_8
