set_option maxHeartbeats 4000000 in
set_option maxRecDepth 100000 in
theorem cX3_join_x {l : Launch} {D : va_G} {cA : Nat → ClassId} {adr : Nat → Nat} {n : Nat} {E : Nat → va_E} {sa : Nat → Nat} {lo : Nat} (hls : l.stackTraces = false) (hAd : wd_ad lo n adr) {S : CS} (hn : 30 ≤ n) (hR : Rep cA adr S E) (dd oo : Int32) : vx_Met l yX3_join (.code yX3_join cX3_join 7 (some .int) :: lw_G) ({ frames := 7, cells := 3, slots := 18, locals := 102 } : Room) (va_Pc [.ref (adr 0), .int dd, .int oo] (wdX D (kty cA) sa lo adr n E)) (pq D cA lo adr n E (k_join S dd oo = 0) (r_join S dd oo) (s_join S dd oo)) (xT (fun X => k_join S dd oo = 1 ∧ X = nIOB)) 3 18 (fun q => lo ≤ q) := by
  refine vx_ofW (cc := cX3_join) (maxL := 7) (ret := (some .int)) (by decide) rfl ?_
  intro p e s m args below meth c s₁ B hml hno hv
  obtain ⟨rfl, hP, hN, hX⟩ := hv
  have hx := B.exec
  have hb := B.bytes
  have hr := B.returns
  have hG : ∀ w ∈ lw_G, w.before _ s = true := fun w h => atoms_spec (ws := _ :: lw_G) B.pre w (List.mem_cons_of_mem _ h)
  have hown : s.vm.findClass RX3 = some m.cls := findClass_of_methodNamed B.named
  have hlocks := B.notSynchronized
  have hK := hN.1
  have hS : va_S (fun q => lo ≤ q) s.heap s.heap [] := va_S.rf
  have hl := lv_entry ([.ref (adr 0), .int dd, .int oo]) (n := 7) (Nat.le_of_ble_eq_true rfl)
  rw [lg_entry_eq]
  generalize (lg_sl ([.ref (adr 0), .int dd, .int oo]) ++ List.replicate (7 - (lg_sl ([.ref (adr 0), .int dd, .int oo])).length) Slot.unset).toArray = ls at hl ⊢
  have hl : lv_has ls 7 [(0, .ref (adr 0)), (1, .int dd), (2, .int oo)] := hl
  obtain ⟨hE0, hE1, hE2, hK0, hK1, hK2, hK3, hK4, ⟨hdv, hE8⟩, hDk, hTl, hct, hnm, htd, hmk, hlf⟩ := id hR
  have h30 : ∀ j, 30 ≤ j → E j = E j := fun _ _ => rfl
  refine lv_iload_n hx hb dX3_join_0 rfl (lv_at hl 1 rfl) ?_
  refine wx_S (rest := []) hx hb hml hown hG hN hX hP (cX3_needDesk_x hls _) (cwS 1 hG (gS g_266 g_267 g_1 g_268) rfl rfl rfl (by decide +kernel) ⟨(Nat.le_of_ble_eq_true rfl), (Nat.le_of_ble_eq_true rfl)⟩) rfl hl.1 rfl (Nat.le_of_ble_eq_true rfl) dX3_join_1 ⟨(Nat.le_of_ble_eq_true rfl), (Nat.le_of_ble_eq_true rfl)⟩ hno hlocks (Nat.le_of_ble_eq_true rfl) (Nat.le_of_ble_eq_true rfl) (fun X h => ⟨by unfold k_join; rw [h.2]; rfl, h.1⟩) (fun hC => ?_)
  have hD9 := hC
  obtain ⟨d, hd, rfl⟩ := inN_of hC (by decide)
  obtain ⟨hD0, hD1⟩ := hDk d hd
  refine lv_iload_n hx hb dX3_join_4 rfl (lv_at hl 2 rfl) ?_
  refine wx_S (rest := []) hx hb hml hown hG hN hX hP (cX3_needDesk_x hls _) (cwS 1 hG (gS g_266 g_267 g_1 g_268) rfl rfl rfl (by decide +kernel) ⟨(Nat.le_of_ble_eq_true rfl), (Nat.le_of_ble_eq_true rfl)⟩) rfl hl.1 rfl (Nat.le_of_ble_eq_true rfl) dX3_join_5 ⟨(Nat.le_of_ble_eq_true rfl), (Nat.le_of_ble_eq_true rfl)⟩ hno hlocks (Nat.le_of_ble_eq_true rfl) (Nat.le_of_ble_eq_true rfl) (fun X h => ⟨by unfold k_join; rw [h.2, Bool.and_false]; rfl, h.1⟩) (fun hC => ?_)
  have hO9 := hC
  obtain ⟨o, ho, rfl⟩ := inN_of hC (by decide)
  obtain ⟨hO0, hO1⟩ := hDk o ho
  refine lv_iload_n hx hb dX3_join_8 rfl (lv_at hl 1 rfl) ?_
  refine lv_iload_n hx hb dX3_join_9 rfl (lv_at hl 2 rfl) ?_
  refine lv_icmp_ne (tgt := 23) hx hb dX3_join_10 (by decide) (fun c10 => ?_) (fun c10 => ?_)
  · have n10 : ¬ d = o := fun h => c10 ((nI_eq (a := d) (b := o) (by omega) (by omega)).mpr h)
    refine lv_aload_n hx hb dX3_join_23 rfl (lv_at hl 0 rfl) ?_
    refine va_get (D := D) (ci := 3) (v := .ref (adr 2)) (C := RX3) (T := TX3) (N := 4) hx hb hG inG_X3 hown hK hP 0 (wl_at (by omega) hE0) rfl 1 (by decide) (hG _ g_100) (fun _ h9 => h9) rfl dX3_join_24 ?_
    refine lv_iload_n hx hb dX3_join_27 rfl (lv_at hl 1 rfl) ?_
    refine wn_ald (j := d) (g := fun j => 9 + 2 * j) hx hb hK hP 3 (by omega) hE2 rfl (by omega) (by decide) dX3_join_28 ?_
    refine lv_astore_n (lv' := [(3, .ref (adr (9 + 2 * d))), (0, .ref (adr 0)), (1, .int (nI d)), (2, .int (nI o))]) hx hb dX3_join_29 rfl hl (by decide) rfl (fun ls hl => ?_)
    refine lv_aload_n hx hb dX3_join_30 rfl (lv_at hl 1 rfl) ?_
    refine va_get (D := D) (ci := 3) (v := .ref (adr 2)) (C := RX3) (T := TX3) (N := 4) hx hb hG inG_X3 hown hK hP 0 (wl_at (by omega) hE0) rfl 1 (by decide) (hG _ g_100) (fun _ h9 => h9) rfl dX3_join_31 ?_
    refine lv_iload_n hx hb dX3_join_34 rfl (lv_at hl 3 rfl) ?_
    refine wn_ald (j := o) (g := fun j => 9 + 2 * j) hx hb hK hP 3 (by omega) hE2 rfl (by omega) (by decide) dX3_join_35 ?_
    refine lv_astore (lv' := [(4, .ref (adr (9 + 2 * o))), (3, .ref (adr (9 + 2 * d))), (0, .ref (adr 0)), (1, .int (nI d)), (2, .int (nI o))]) hx hb dX3_join_36 hl (by decide) rfl (fun ls hl => ?_)
    refine lv_iconst (v := 0) hx hb dX3_join_38 (by decide) ?_
    refine lv_istore (lv' := [(5, .int 0), (4, .ref (adr (9 + 2 * o))), (3, .ref (adr (9 + 2 * d))), (0, .ref (adr 0)), (1, .int (nI d)), (2, .int (nI o))]) hx hb dX3_join_39 hl (by decide) rfl (fun ls hl => ?_)
    refine lv_iconst (v := 0) hx hb dX3_join_41 (by decide) ?_
    refine lv_istore (lv' := [(6, .int 0), (5, .int 0), (4, .ref (adr (9 + 2 * o))), (3, .ref (adr (9 + 2 * d))), (0, .ref (adr 0)), (1, .int (nI d)), (2, .int (nI o))]) hx hb dX3_join_42 hl (by decide) rfl (fun ls hl => ?_)
    have L44 : ∀ (f : Nat) (i : Nat) (E1 : Nat → va_E) (H : Heap) (locs : List Loc), c_ct S - i < f → i ≤ c_ct S → Rep cA adr ((jn S d o i).1) E1 → (∀ j, 30 ≤ j → E1 j = E j) → va_P D kcl (wl adr n E1) H → va_S (fun q => lo ≤ q) s.heap H locs → ∀ ls : Array Slot, lv_has ls 7 [(6, .int (nI i)), (5, .int (nI (jn S d o i).2)), (0, .ref (adr 0)), (3, .ref (adr (9 + 2 * d))), (4, .ref (adr (9 + 2 * o))), (1, .int (nI d)), (2, .int (nI o))] → W p l e (headSpec (.code yX3_join cX3_join 7 (some .int) :: lw_G) ({ frames := 7, cells := 3, slots := 18, locals := 102 } : Room)).room s m [.ref (adr 0), .int (nI d), .int (nI o)].toArray below meth c H locs 2 12 (vx_MQ below (pq D cA lo adr n E (k_join S (nI d) (nI o) = 0) (r_join S (nI d) (nI o)) (s_join S (nI d) (nI o))) (xT (fun X => k_join S (nI d) (nI o) = 1 ∧ X = nIOB)) [.ref (adr 0), .int (nI d), .int (nI o)].toArray s 3 18 (fun q => lo ≤ q)) (F0 m 44 ls []) := by
      intro f
      induction f with
      | zero => intro i E1 H locs h0; exact absurd h0 (by omega)
      | succ f ih =>
        intro i E1 H locs hf hi hR h30 hP hS ls hl
        obtain ⟨hE0, hE1, hE2, hK0, hK1, hK2, hK3, hK4, ⟨hdv, hE8⟩, hDk, hTl, hct, hnm, htd, hmk, hlf⟩ := id hR
        obtain ⟨hD0, hD1⟩ := hDk d hd
        obtain ⟨hO0, hO1⟩ := hDk o ho
        have ejc := jn_ct (S := S) (d := d) (o := o) (i := i)
        refine lv_iload hx hb dX3_join_44 (lv_at hl 0 rfl) ?_
        refine lv_aload_n hx hb dX3_join_46 rfl (lv_at hl 2 rfl) ?_
        refine va_get (D := D) (ci := 3) (v := .ref (adr 3)) (C := RX3) (T := TX3) (N := 4) hx hb hG inG_X3 hown hK hP 0 (wl_at (by omega) hE0) rfl 2 (by decide) (hG _ g_101) (fun _ h9 => h9) rfl dX3_join_47 ?_
        refine va_get (D := D) (ci := 2) (v := .int (nI (c_ct ((jn S d o i).1)))) (C := RX2) (T := TX2) (N := 5) hx hb hG inG_X2 hown hK hP 3 (wl_at (by omega) hK0) rfl 4 (by decide) (hG _ g_41) (fun _ h9 => h9) rfl dX3_join_50 ?_
        refine lv_icmp_ge (tgt := 90) hx hb dX3_join_53 (by decide) (fun c53 => ?_) (fun c53 => ?_)
        · have n53 : (c_ct ((jn S d o i).1)) ≤ i := (nI_leI (a := (c_ct ((jn S d o i).1))) (b := i) (by omega) (by omega)).mp c53
          refine lv_iload hx hb dX3_join_90 (lv_at hl 1 rfl) ?_
          refine W.widen (k := 3) (n := 18) (Nat.le_of_ble_eq_true rfl) (Nat.le_of_ble_eq_true rfl) ?_
          exact vx_ret (W.iret (v := nI (jn S d o i).2) hx hb hr (fun u9 ht _ => ⟨congrArg (fun z => Outcome.returned (some (Value.int z))) (by unfold r_join; rw [nI_clamp (by omega), nI_clamp (by omega), show c_ct S = i from by omega]), by unfold k_join; rw [hD9, hO9, decide_eq_false (fun h => c10 h)]; rfl, E1, (by unfold s_join; rw [nI_clamp (by omega), nI_clamp (by omega), show c_ct S = i from by omega]; exact hR), h30, by rw [ht]; exact hP, hS.F ht⟩) hS.2.2 dX3_join_92)
        · have n53 : ¬ (c_ct ((jn S d o i).1)) ≤ i := fun h => c53 ((nI_leI (a := (c_ct ((jn S d o i).1))) (b := i) (by omega) (by omega)).mpr h)
          refine lv_aload hx hb dX3_join_56 (lv_at hl 4 rfl) ?_
          refine lv_iload hx hb dX3_join_58 (lv_at hl 0 rfl) ?_
          refine wn_rV (rest := []) hx hb hml hown hG hN hP (cX0_hasSeen_r (by omega) hO0 hO1 (j := i) (by omega)) (cwV 1 hG (gV g_343 g_344 g_345 g_4 g_346) rfl rfl rfl (by decide +kernel) ⟨Nat.le_of_ble_eq_true rfl, Nat.le_of_ble_eq_true rfl⟩) (by omega) hO0 rfl rfl hl.1 rfl (Nat.le_of_ble_eq_true rfl) dX3_join_60 ⟨Nat.le_of_ble_eq_true rfl, Nat.le_of_ble_eq_true rfl⟩ ?_
          refine lv_if_eq (tgt := 84) hx hb dX3_join_63 (by decide) (fun c63 => ?_) (fun c63 => ?_)
          · have n63 : (c_see (jn S d o i).1 o i) = false := bI_0.mp c63
            have ejm := jn_m1 n63
            rw [← ejm] at hl
            refine lv_iinc (v := nI (i + 1)) (lv' := [(6, .int (nI (i + 1))), (5, .int (nI (jn S d o (i + 1)).2)), (0, .ref (adr 0)), (3, .ref (adr (9 + 2 * d))), (4, .ref (adr (9 + 2 * o))), (1, .int (nI d)), (2, .int (nI o))]) hx hb dX3_join_84 hl (k := 0) rfl (nI_1 _) (by decide) rfl (fun ls hl => ?_)
            refine lv_goto (tgt := 44) hx hb dX3_join_87 (by decide) ?_
            exact ih (i + 1) E1 _ _ (by omega) (by omega) (by rw [ejm]; exact hR) h30 hP hS ls (lv_sub hl [0, 1, 2, 3, 4, 5, 6] rfl)
          · have n63 : (c_see (jn S d o i).1 o i) = true := bI_1.mp c63
            refine lv_aload_n hx hb dX3_join_66 rfl (lv_at hl 3 rfl) ?_
            refine lv_iload hx hb dX3_join_67 (lv_at hl 0 rfl) ?_
            refine wn_rV (rest := []) hx hb hml hown hG hN hP (cX0_has_r (by omega) hD0 hD1 (j := i) (by omega)) (cwV 1 hG (gV g_307 g_308 g_309 g_4 g_310) rfl rfl rfl (by decide +kernel) ⟨Nat.le_of_ble_eq_true rfl, Nat.le_of_ble_eq_true rfl⟩) (by omega) hD0 rfl rfl hl.1 rfl (Nat.le_of_ble_eq_true rfl) dX3_join_69 ⟨Nat.le_of_ble_eq_true rfl, Nat.le_of_ble_eq_true rfl⟩ ?_
            refine lv_if_ne (tgt := 84) hx hb dX3_join_72 (by decide) (fun c72 => ?_) (fun c72 => ?_)
            · have n72 : (c_has (jn S d o i).1 d i) = true := bI_1.mp c72
              have ejm := jn_m2 n72
              rw [← ejm] at hl
              refine lv_iinc (v := nI (i + 1)) (lv' := [(6, .int (nI (i + 1))), (5, .int (nI (jn S d o (i + 1)).2)), (0, .ref (adr 0)), (3, .ref (adr (9 + 2 * d))), (4, .ref (adr (9 + 2 * o))), (1, .int (nI d)), (2, .int (nI o))]) hx hb dX3_join_84 hl (k := 0) rfl (nI_1 _) (by decide) rfl (fun ls hl => ?_)
              refine lv_goto (tgt := 44) hx hb dX3_join_87 (by decide) ?_
              exact ih (i + 1) E1 _ _ (by omega) (by omega) (by rw [ejm]; exact hR) h30 hP hS ls (lv_sub hl [0, 1, 2, 3, 4, 5, 6] rfl)
            · have n72 : (c_has (jn S d o i).1 d i) = false := bI_0.mp c72
              refine lv_aload_n hx hb dX3_join_75 rfl (lv_at hl 3 rfl) ?_
              refine lv_iload hx hb dX3_join_76 (lv_at hl 0 rfl) ?_
              refine wn_wV (rest := []) hx hb hml hown hG hN hP hS (cX0_take_w hAd (by omega) hD0 hD1 (j := i) (by omega)) (cwV 1 hG (gV g_323 g_324 g_325 g_4 g_326) rfl rfl rfl (by decide +kernel) ⟨Nat.le_of_ble_eq_true rfl, Nat.le_of_ble_eq_true rfl⟩) (by omega) hD0 rfl rfl hl.1 rfl (Nat.le_of_ble_eq_true rfl) dX3_join_78 ⟨Nat.le_of_ble_eq_true rfl, Nat.le_of_ble_eq_true rfl⟩ (fun F1 H locs hFF hP hS => ?_)
              obtain ⟨f0, f1, fF⟩ := hFF
              have hR : Rep cA adr (tk (jn S d o i).1 d i) F1 := rep_uD hR hd f0 f1 fF
              have h30 : ∀ j, 30 ≤ j → F1 j = E j := fun j hj => (fF j (by omega) (by omega)).trans (h30 j hj)
              refine lv_iinc (v := nI (jn S d o (i + 1)).2) (lv' := [(5, .int (nI (jn S d o (i + 1)).2)), (6, .int (nI i)), (0, .ref (adr 0)), (3, .ref (adr (9 + 2 * d))), (4, .ref (adr (9 + 2 * o))), (1, .int (nI d)), (2, .int (nI o))]) hx hb dX3_join_81 hl (k := 1) rfl (by rw [jn_hit n63 n72]; exact nI_1 _) (by decide) rfl (fun ls hl => ?_)
              refine lv_iinc (v := nI (i + 1)) (lv' := [(6, .int (nI (i + 1))), (5, .int (nI (jn S d o (i + 1)).2)), (0, .ref (adr 0)), (3, .ref (adr (9 + 2 * d))), (4, .ref (adr (9 + 2 * o))), (1, .int (nI d)), (2, .int (nI o))]) hx hb dX3_join_84 hl (k := 1) rfl (nI_1 _) (by decide) rfl (fun ls hl => ?_)
              refine lv_goto (tgt := 44) hx hb dX3_join_87 (by decide) ?_
              exact ih (i + 1) F1 _ _ (by omega) (by omega) (by rw [jn_hit n63 n72]; exact hR) h30 hP hS ls (lv_sub hl [0, 1, 2, 3, 4, 5, 6] rfl)
    exact L44 (c_ct S + 1) 0 E _ _ (by omega) (by omega) hR h30 hP hS ls (lv_sub hl [0, 1, 4, 3, 2, 5, 6] rfl)
  · have n10 : d = o := (nI_eq (a := d) (b := o) (by omega) (by omega)).mp c10
    exact th_IOB hx hb hls hown hG hN hX (hl.1.trans hml.symm) 9 rfl dX3_join_13 dX3_join_16 dX3_join_17 dX3_join_19 dX3_join_22 hno (Nat.le_of_ble_eq_true rfl) (Nat.le_of_ble_eq_true rfl) (Nat.le_of_ble_eq_true rfl) (Nat.le_of_ble_eq_true rfl) hlocks ⟨by unfold k_join; rw [show nI d = nI o from by rw [n10]]; simp, rfl⟩ (Nat.le_of_ble_eq_true rfl) (Nat.le_of_ble_eq_true rfl)

set_option maxHeartbeats 4000000 in
set_option maxRecDepth 100000 in
theorem cX3_tell_x {l : Launch} {D : va_G} {cA : Nat → ClassId} {adr : Nat → Nat} {n : Nat} {E : Nat → va_E} {sa : Nat → Nat} {lo : Nat} (hls : l.stackTraces = false) (hAd : wd_ad lo n adr) {S : CS} (hn : 30 ≤ n) (hR : Rep cA adr S E) (dd tt : Int32) (x : Int64) (v : Int32) : vx_Met l yX3_tell (.code yX3_tell cX3_tell 11 (some .int) :: lw_G) ({ frames := 8, cells := 5, slots := 30, locals := 123 } : Room) (va_Pc [.ref (adr 0), .int dd, .int tt, .long x, .int v] (wdX D (kty cA) sa lo adr n E)) (pq D cA lo adr n E (k_tell S dd tt x v = 0) (r_tell S dd.toNatClampNeg tt.toNatClampNeg (tN x) v) (s_tell S dd.toNatClampNeg tt.toNatClampNeg (tN x) v)) (xT (fun X => (k_tell S dd tt x v = 1 ∧ X = nIOB) ∨ (k_tell S dd tt x v = 2 ∧ X = nIAE) ∨ (k_tell S dd tt x v = 3 ∧ X = nUOE))) 5 30 (fun q => lo ≤ q) := by
  refine vx_ofW (cc := cX3_tell) (maxL := 11) (ret := (some .int)) (by decide) rfl ?_
  intro p e s m args below meth c s₁ B hml hno hv
  obtain ⟨rfl, hP, hN, hX⟩ := hv
  have hx := B.exec
  have hb := B.bytes
  have hr := B.returns
  have hG : ∀ w ∈ lw_G, w.before _ s = true := fun w h => atoms_spec (ws := _ :: lw_G) B.pre w (List.mem_cons_of_mem _ h)
  have hown : s.vm.findClass RX3 = some m.cls := findClass_of_methodNamed B.named
  have hlocks := B.notSynchronized
  have hK := hN.1
  have hS : va_S (fun q => lo ≤ q) s.heap s.heap [] := va_S.rf
  have hl := lv_entry ([.ref (adr 0), .int dd, .int tt, .long x, .int v]) (n := 11) (Nat.le_of_ble_eq_true rfl)
  rw [lg_entry_eq]
  generalize (lg_sl ([.ref (adr 0), .int dd, .int tt, .long x, .int v]) ++ List.replicate (11 - (lg_sl ([.ref (adr 0), .int dd, .int tt, .long x, .int v])).length) Slot.unset).toArray = ls at hl ⊢
  have hl : lv_has ls 11 [(0, .ref (adr 0)), (1, .int dd), (2, .int tt), (3, .long x), (5, .int v)] := hl
  obtain ⟨hE0, hE1, hE2, hK0, hK1, hK2, hK3, hK4, ⟨hdv, hE8⟩, hDk, hTl, hct, hnm, htd, hmk, hlf⟩ := id hR
  have h30 : ∀ j, 30 ≤ j → E j = E j := fun _ _ => rfl
  refine lv_iload_n hx hb dX3_tell_0 rfl (lv_at hl 1 rfl) ?_
  refine wx_S (rest := []) hx hb hml hown hG hN hX hP (cX3_needDesk_x hls _) (cwS 1 hG (gS g_266 g_267 g_1 g_268) rfl rfl rfl (by decide +kernel) ⟨(Nat.le_of_ble_eq_true rfl), (Nat.le_of_ble_eq_true rfl)⟩) rfl hl.1 rfl (Nat.le_of_ble_eq_true rfl) dX3_tell_1 ⟨(Nat.le_of_ble_eq_true rfl), (Nat.le_of_ble_eq_true rfl)⟩ hno hlocks (Nat.le_of_ble_eq_true rfl) (Nat.le_of_ble_eq_true rfl) (fun X h => Or.inl ⟨by unfold k_tell; rw [h.2]; rfl, h.1⟩) (fun hC => ?_)
  have hD9 := hC
  obtain ⟨d, hd, rfl⟩ := inN_of hC (by decide)
  obtain ⟨hD0, hD1⟩ := hDk d hd
  refine lv_iload_n hx hb dX3_tell_4 rfl (lv_at hl 2 rfl) ?_
  refine wx_S (rest := []) hx hb hml hown hG hN hX hP (cX3_needTeller_x hls _) (cwS 1 hG (gS g_122 g_123 g_1 g_124) rfl rfl rfl (by decide +kernel) ⟨(Nat.le_of_ble_eq_true rfl), (Nat.le_of_ble_eq_true rfl)⟩) rfl hl.1 rfl (Nat.le_of_ble_eq_true rfl) dX3_tell_5 ⟨(Nat.le_of_ble_eq_true rfl), (Nat.le_of_ble_eq_true rfl)⟩ hno hlocks (Nat.le_of_ble_eq_true rfl) (Nat.le_of_ble_eq_true rfl) (fun X h => Or.inl ⟨by unfold k_tell; rw [h.2, Bool.and_false]; rfl, h.1⟩) (fun hC => ?_)
  have hT9 := hC
  obtain ⟨t, ht, rfl⟩ := inN_of hC (by decide)
  obtain ⟨hT0, hT1, hT2⟩ := hTl t ht
  refine lv_lload_n hx hb dX3_tell_8 rfl (lv_at hl 3 rfl) ?_
  refine wx_S (rest := []) hx hb hml hown hG hN hX hP (cX3_needTold_x hls _) (cwS 1 hG (gS g_270 g_271 g_1 g_272) rfl rfl rfl (by decide +kernel) ⟨(Nat.le_of_ble_eq_true rfl), (Nat.le_of_ble_eq_true rfl)⟩) rfl hl.1 rfl (Nat.le_of_ble_eq_true rfl) dX3_tell_9 ⟨(Nat.le_of_ble_eq_true rfl), (Nat.le_of_ble_eq_true rfl)⟩ hno hlocks (Nat.le_of_ble_eq_true rfl) (Nat.le_of_ble_eq_true rfl) (fun X h => Or.inr (Or.inl ⟨by unfold k_tell; rw [hD9, hT9, h.2]; rfl, h.1⟩)) (fun hC => ?_)
  have hOK := hC
  unfold tOK at hC
  simp only [Bool.and_eq_true, decide_eq_true_eq] at hC
  obtain ⟨⟨hx1, hx2⟩, hx3⟩ := hC
  have blf := hlf t ht
  have bnm : t_nm S t (tN x) < 2560 := by unfold t_nm; omega
  refine lv_lload_n hx hb dX3_tell_12 rfl (lv_at hl 3 rfl) ?_
  refine lv_l2i (v := x.toInt32) hx hb dX3_tell_13 rfl ?_
  refine lv_topi (fun y9 e9 => ?_)
  have e9 : y9 = nI (tN x) := e9.trans (tN_i x)
  subst e9
  refine lv_istore (lv' := [(6, .int (nI (tN x))), (0, .ref (adr 0)), (1, .int (nI d)), (2, .int (nI t)), (3, .long x), (5, .int v)]) hx hb dX3_tell_14 hl (by decide) rfl (fun ls hl => ?_)
  refine lv_iload_n hx hb dX3_tell_16 rfl (lv_at hl 3 rfl) ?_
  refine lv_aload_n hx hb dX3_tell_17 rfl (lv_at hl 1 rfl) ?_
  refine va_get (D := D) (ci := 3) (v := .ref (adr 1)) (C := RX3) (T := TX3) (N := 4) hx hb hG inG_X3 hown hK hP 0 (wl_at (by omega) hE0) rfl 0 (by decide) (hG _ g_99) (fun _ h9 => h9) rfl dX3_tell_18 ?_
  refine lv_iload_n hx hb dX3_tell_21 rfl (lv_at hl 3 rfl) ?_
  refine wn_ald (j := t) (g := fun j => 15 + 3 * j) hx hb hK hP 2 (by omega) hE1 rfl (by omega) (by decide) dX3_tell_22 ?_
  refine va_get (D := D) (ci := 1) (v := .int (nI (c_lf S t))) (C := RX1) (T := TX1) (N := 4) hx hb hG inG_X1 hown hK hP (15 + 3 * t) (wl_at (by omega) hT0) rfl 3 (by decide) (hG _ g_64) (fun _ h9 => h9) rfl dX3_tell_23 ?_
  refine lv_iload hx hb dX3_tell_26 (lv_at hl 0 rfl) ?_
  refine wn_rS (rest := [.int (nI (c_lf S t)), .int (nI t)]) hx hb hml hown hG (cX3_numberIn_r _) (cwS 1 hG (gS g_280 g_281 g_1 g_282) rfl rfl rfl (by decide +kernel) ⟨Nat.le_of_ble_eq_true rfl, Nat.le_of_ble_eq_true rfl⟩) rfl hl.1 rfl (Nat.le_of_ble_eq_true rfl) dX3_tell_28 ⟨Nat.le_of_ble_eq_true rfl, Nat.le_of_ble_eq_true rfl⟩ ?_
  refine lv_topi (fun y9 e9 => ?_)
  have e9 : y9 = nI (tN x / 2 ^ 23 % 128) := e9.trans (by rw [pk_shrN (by omega) _ 23 (by decide), pk_andN (by omega) 7 (by decide)])
  subst e9
  refine wn_rS (rest := []) hx hb hml hown hG (cX3_nameOf_r (t := t) (f := c_lf S t) (u := tN x / 2 ^ 23 % 128) (by omega) (by omega) (by omega)) (cwS 3 hG (gS g_284 g_285 g_1 g_286) rfl rfl rfl (by decide +kernel) ⟨Nat.le_of_ble_eq_true rfl, Nat.le_of_ble_eq_true rfl⟩) rfl hl.1 rfl (Nat.le_of_ble_eq_true rfl) dX3_tell_31 ⟨Nat.le_of_ble_eq_true rfl, Nat.le_of_ble_eq_true rfl⟩ ?_
  refine lv_istore (lv' := [(7, .int (nI (t_nm S t (tN x)))), (6, .int (nI (tN x))), (0, .ref (adr 0)), (1, .int (nI d)), (2, .int (nI t)), (3, .long x), (5, .int v)]) hx hb dX3_tell_34 hl (by decide) rfl (fun ls hl => ?_)
  refine lv_aload_n hx hb dX3_tell_36 rfl (lv_at hl 2 rfl) ?_
  refine va_get (D := D) (ci := 3) (v := .ref (adr 3)) (C := RX3) (T := TX3) (N := 4) hx hb hG inG_X3 hown hK hP 0 (wl_at (by omega) hE0) rfl 2 (by decide) (hG _ g_101) (fun _ h9 => h9) rfl dX3_tell_37 ?_
  refine lv_iload hx hb dX3_tell_40 (lv_at hl 0 rfl) ?_
  refine lv_iload hx hb dX3_tell_42 (lv_at hl 1 rfl) ?_
  refine lv_iload hx hb dX3_tell_44 (lv_at hl 6 rfl) ?_
  refine wn_rV (rest := []) hx hb hml hown hG hN hP (cX2_find_r (by omega) hct hK0 hK1 hK2 hK3 hK4 hnm htd (a := t_nm S t (tN x)) (b := tN x) bnm hx1 v) (cwV 3 hG (gV g_287 g_288 g_289 g_2 g_290) rfl rfl rfl (by decide +kernel) ⟨Nat.le_of_ble_eq_true rfl, Nat.le_of_ble_eq_true rfl⟩) (by omega) hK0 rfl rfl hl.1 rfl (Nat.le_of_ble_eq_true rfl) dX3_tell_46 ⟨Nat.le_of_ble_eq_true rfl, Nat.le_of_ble_eq_true rfl⟩ ?_
  refine lv_istore (lv' := [(8, .int (oI (t_fd S t (tN x) v))), (7, .int (nI (t_nm S t (tN x)))), (6, .int (nI (tN x))), (0, .ref (adr 0)), (1, .int (nI d)), (2, .int (nI t)), (3, .long x), (5, .int v)]) hx hb dX3_tell_49 hl (by decide) rfl (fun ls hl => ?_)
  refine lv_iload hx hb dX3_tell_51 (lv_at hl 0 rfl) ?_
  refine lv_iconst (v := (-1)) hx hb dX3_tell_53 (by decide) ?_
  refine lv_icmp_ne (tgt := 79) hx hb dX3_tell_54 (by decide) (fun c54 => ?_) (fun c54 => ?_)
  · obtain ⟨z, hz⟩ := oI_ne c54
    have bz := (fiB_spec hz).1
    have hz : t_fd S t (tN x) v = some z := hz
    rw [hz] at hl
    refine lv_aload_n hx hb dX3_tell_79 rfl (lv_at hl 3 rfl) ?_
    refine va_get (D := D) (ci := 3) (v := .ref (adr 2)) (C := RX3) (T := TX3) (N := 4) hx hb hG inG_X3 hown hK hP 0 (wl_at (by omega) hE0) rfl 1 (by decide) (hG _ g_100) (fun _ h9 => h9) rfl dX3_tell_80 ?_
    refine lv_iload_n hx hb dX3_tell_83 rfl (lv_at hl 4 rfl) ?_
    refine wn_ald (j := d) (g := fun j => 9 + 2 * j) hx hb hK hP 3 (by omega) hE2 rfl (by omega) (by decide) dX3_tell_84 ?_
    refine lv_astore (lv' := [(9, .ref (adr (9 + 2 * d))), (8, .int (nI z)), (7, .int (nI (t_nm S t (tN x)))), (6, .int (nI (tN x))), (0, .ref (adr 0)), (1, .int (nI d)), (2, .int (nI t)), (3, .long x), (5, .int v)]) hx hb dX3_tell_85 hl (by decide) rfl (fun ls hl => ?_)
    refine lv_iload hx hb dX3_tell_87 (lv_at hl 1 rfl) ?_
    refine lv_iconst (v := (-1)) hx hb dX3_tell_89 (by decide) ?_
    refine lv_icmp_eq (tgt := 105) hx hb dX3_tell_90 (by decide) (fun c90 => absurd c90 (nI_n1 (by omega))) (fun c90 => ?_)
    refine lv_aload hx hb dX3_tell_93 (lv_at hl 0 rfl) ?_
    refine lv_iload hx hb dX3_tell_95 (lv_at hl 1 rfl) ?_
    refine wn_rV (rest := []) hx hb hml hown hG hN hP (cX0_has_r (by omega) hD0 hD1 (j := z) (by omega)) (cwV 1 hG (gV g_307 g_308 g_309 g_4 g_310) rfl rfl rfl (by decide +kernel) ⟨Nat.le_of_ble_eq_true rfl, Nat.le_of_ble_eq_true rfl⟩) (by omega) hD0 rfl rfl hl.1 rfl (Nat.le_of_ble_eq_true rfl) dX3_tell_97 ⟨Nat.le_of_ble_eq_true rfl, Nat.le_of_ble_eq_true rfl⟩ ?_
    refine lv_if_eq (tgt := 105) hx hb dX3_tell_100 (by decide) (fun c100 => ?_) (fun c100 => ?_)
    · have n100 : (c_has S d z) = false := bI_0.mp c100
      refine lv_iload hx hb dX3_tell_105 (lv_at hl 1 rfl) ?_
      refine lv_iconst (v := (-1)) hx hb dX3_tell_107 (by decide) ?_
      refine lv_icmp_ne (tgt := 126) hx hb dX3_tell_108 (by decide) (fun c108 => ?_) (fun c108 => absurd c108 (nI_n1 (by omega)))
      refine lv_aload_n hx hb dX3_tell_126 rfl (lv_at hl 4 rfl) ?_
      refine lv_aload hx hb dX3_tell_127 (lv_at hl 0 rfl) ?_
      refine lv_iload hx hb dX3_tell_129 (lv_at hl 1 rfl) ?_
      have hAD : t_ad S t (tN x) v = S := by unfold t_ad; rw [if_neg (by rw [hz]; exact fun h => nomatch h)]
      have hIX : t_ix S t (tN x) v = z := by unfold t_ix; rw [hz]; rfl
      have hHT : hasT S d t (tN x) v = false := by unfold hasT; rw [hAD, hIX, n100]; rfl
      refine wn_rV (rest := []) hx hb hml hown hG hN hP (cX3_hasRival_r hn hR hd (i := z) (by omega)) (cwV 2 hG (gV g_315 g_317 gp_X3_hasRival g_1 g_318) rfl rfl rfl (by decide +kernel) ⟨Nat.le_of_ble_eq_true rfl, Nat.le_of_ble_eq_true rfl⟩) (by omega) hE0 rfl rfl hl.1 rfl (Nat.le_of_ble_eq_true rfl) dX3_tell_131 ⟨Nat.le_of_ble_eq_true rfl, Nat.le_of_ble_eq_true rfl⟩ ?_
      refine lv_if_eq (tgt := 141) hx hb dX3_tell_134 (by decide) (fun c134 => ?_) (fun c134 => ?_)
      · have n134 : (anB (fun r => c_rv S z r && c_has S d r) (c_ct S)) = false := bI_0.mp c134
        refine lv_iconst (v := 0) hx hb dX3_tell_141 (by decide) ?_
        refine lv_istore (lv' := [(10, .int 0), (9, .ref (adr (9 + 2 * d))), (8, .int (nI z)), (7, .int (nI (t_nm S t (tN x)))), (6, .int (nI (tN x))), (0, .ref (adr 0)), (1, .int (nI d)), (2, .int (nI t)), (3, .long x), (5, .int v)]) hx hb dX3_tell_142 hl (by decide) rfl (fun ls hl => ?_)
        refine lv_aload hx hb dX3_tell_144 (lv_at hl 1 rfl) ?_
        refine lv_iload hx hb dX3_tell_146 (lv_at hl 2 rfl) ?_
        refine wn_wV (rest := []) hx hb hml hown hG hN hP hS (cX0_take_w hAd (by omega) hD0 hD1 (j := z) (by omega)) (cwV 1 hG (gV g_323 g_324 g_325 g_4 g_326) rfl rfl rfl (by decide +kernel) ⟨Nat.le_of_ble_eq_true rfl, Nat.le_of_ble_eq_true rfl⟩) (by omega) hD0 rfl rfl hl.1 rfl (Nat.le_of_ble_eq_true rfl) dX3_tell_148 ⟨Nat.le_of_ble_eq_true rfl, Nat.le_of_ble_eq_true rfl⟩ (fun F1 H locs hFF hP hS => ?_)
        obtain ⟨f0, f1, fF⟩ := hFF
        have hR : Rep cA adr (tk S d z) F1 := rep_uD hR hd f0 f1 fF
        have h30 : ∀ j, 30 ≤ j → F1 j = E j := fun j hj => (fF j (by omega) (by omega)).trans (h30 j hj)
        refine lv_iload hx hb dX3_tell_151 (lv_at hl 0 rfl) ?_
        refine W.widen (k := 5) (n := 30) (Nat.le_of_ble_eq_true rfl) (Nat.le_of_ble_eq_true rfl) ?_
        exact vx_ret (W.iret (v := 0) hx hb hr (fun u9 ht _ => ⟨congrArg (fun z => Outcome.returned (some (Value.int z))) (by rw [nI_clamp (by omega), nI_clamp (by omega)]; unfold r_tell; rw [hHT, hAD, hIX, n134]; rfl), by unfold k_tell; rw [hD9, hT9, hOK, nI_clamp (by omega)]; simp only [Bool.and_self, if_true]; rw [if_neg (fun h => by rw [hz] at h; exact nomatch h.1)], F1, (by rw [nI_clamp (by omega), nI_clamp (by omega)]; unfold s_tell; rw [hHT, hAD, hIX]; exact hR), h30, by rw [ht]; exact hP, hS.F ht⟩) hS.2.2 dX3_tell_153)
      · have n134 : (anB (fun r => c_rv S z r && c_has S d r) (c_ct S)) = true := bI_1.mp c134
        refine lv_iconst (v := 2) hx hb dX3_tell_137 (by decide) ?_
        refine lv_goto (tgt := 142) hx hb dX3_tell_138 (by decide) ?_
        refine lv_istore (lv' := [(10, .int 2), (9, .ref (adr (9 + 2 * d))), (8, .int (nI z)), (7, .int (nI (t_nm S t (tN x)))), (6, .int (nI (tN x))), (0, .ref (adr 0)), (1, .int (nI d)), (2, .int (nI t)), (3, .long x), (5, .int v)]) hx hb dX3_tell_142 hl (by decide) rfl (fun ls hl => ?_)
        refine lv_aload hx hb dX3_tell_144 (lv_at hl 1 rfl) ?_
        refine lv_iload hx hb dX3_tell_146 (lv_at hl 2 rfl) ?_
        refine wn_wV (rest := []) hx hb hml hown hG hN hP hS (cX0_take_w hAd (by omega) hD0 hD1 (j := z) (by omega)) (cwV 1 hG (gV g_323 g_324 g_325 g_4 g_326) rfl rfl rfl (by decide +kernel) ⟨Nat.le_of_ble_eq_true rfl, Nat.le_of_ble_eq_true rfl⟩) (by omega) hD0 rfl rfl hl.1 rfl (Nat.le_of_ble_eq_true rfl) dX3_tell_148 ⟨Nat.le_of_ble_eq_true rfl, Nat.le_of_ble_eq_true rfl⟩ (fun F2 H locs hFF hP hS => ?_)
        obtain ⟨f0, f1, fF⟩ := hFF
        have hR : Rep cA adr (tk S d z) F2 := rep_uD hR hd f0 f1 fF
        have h30 : ∀ j, 30 ≤ j → F2 j = E j := fun j hj => (fF j (by omega) (by omega)).trans (h30 j hj)
        refine lv_iload hx hb dX3_tell_151 (lv_at hl 0 rfl) ?_
        refine W.widen (k := 5) (n := 30) (Nat.le_of_ble_eq_true rfl) (Nat.le_of_ble_eq_true rfl) ?_
        exact vx_ret (W.iret (v := 2) hx hb hr (fun u9 ht _ => ⟨congrArg (fun z => Outcome.returned (some (Value.int z))) (by rw [nI_clamp (by omega), nI_clamp (by omega)]; unfold r_tell; rw [hHT, hAD, hIX, n134]; rfl), by unfold k_tell; rw [hD9, hT9, hOK, nI_clamp (by omega)]; simp only [Bool.and_self, if_true]; rw [if_neg (fun h => by rw [hz] at h; exact nomatch h.1)], F2, (by rw [nI_clamp (by omega), nI_clamp (by omega)]; unfold s_tell; rw [hHT, hAD, hIX]; exact hR), h30, by rw [ht]; exact hP, hS.F ht⟩) hS.2.2 dX3_tell_153)
    · have n100 : (c_has S d z) = true := bI_1.mp c100
      refine lv_iconst (v := 1) hx hb dX3_tell_103 (by decide) ?_
      refine W.widen (k := 5) (n := 30) (Nat.le_of_ble_eq_true rfl) (Nat.le_of_ble_eq_true rfl) ?_
      exact vx_ret (W.iret (v := 1) hx hb hr (fun u9 ht _ => ⟨congrArg (fun z => Outcome.returned (some (Value.int z))) (by rw [nI_clamp (by omega), nI_clamp (by omega)]; unfold r_tell; rw [show hasT S d t (tN x) v = true from by unfold hasT t_ad t_ix; rw [if_neg (by rw [hz]; exact fun h => nomatch h), hz]; simp [show c_has S d z = true from n100]]; rfl), by unfold k_tell; rw [hD9, hT9, hOK, nI_clamp (by omega)]; simp only [Bool.and_self, if_true]; rw [if_neg (fun h => by rw [hz] at h; exact nomatch h.1)], E, (by rw [nI_clamp (by omega), nI_clamp (by omega)]; unfold s_tell; rw [show hasT S d t (tN x) v = true from by unfold hasT t_ad t_ix; rw [if_neg (by rw [hz]; exact fun h => nomatch h), hz]; simp [show c_has S d z = true from n100]]; rw [if_pos rfl]; unfold t_ad; rw [if_neg (by rw [hz]; exact fun h => nomatch h)]; exact hR), h30, by rw [ht]; exact hP, hS.F ht⟩) hS.2.2 dX3_tell_104)
  · have hz : t_fd S t (tN x) v = none := (oI_n1 (fun z hz => by have := (fiB_spec hz).1; omega)).mp c54
    rw [hz] at hl
    refine lv_aload_n hx hb dX3_tell_57 rfl (lv_at hl 3 rfl) ?_
    refine va_get (D := D) (ci := 3) (v := .ref (adr 3)) (C := RX3) (T := TX3) (N := 4) hx hb hG inG_X3 hown hK hP 0 (wl_at (by omega) hE0) rfl 2 (by decide) (hG _ g_101) (fun _ h9 => h9) rfl dX3_tell_58 ?_
    refine va_get (D := D) (ci := 2) (v := .int (nI (c_ct S))) (C := RX2) (T := TX2) (N := 5) hx hb hG inG_X2 hown hK hP 3 (wl_at (by omega) hK0) rfl 4 (by decide) (hG _ g_41) (fun _ h9 => h9) rfl dX3_tell_61 ?_
    refine lv_bipush (v := 120) hx hb dX3_tell_64 (by decide) ?_
    refine lv_icmp_lt (tgt := 79) hx hb dX3_tell_66 (by decide) (fun c66 => ?_) (fun c66 => ?_)
    · have n66 : (c_ct S) < 120 := (nI_ltI (a := (c_ct S)) (b := 120) (by omega) (by omega)).mp c66
      refine lv_aload_n hx hb dX3_tell_79 rfl (lv_at hl 3 rfl) ?_
      refine va_get (D := D) (ci := 3) (v := .ref (adr 2)) (C := RX3) (T := TX3) (N := 4) hx hb hG inG_X3 hown hK hP 0 (wl_at (by omega) hE0) rfl 1 (by decide) (hG _ g_100) (fun _ h9 => h9) rfl dX3_tell_80 ?_
      refine lv_iload_n hx hb dX3_tell_83 rfl (lv_at hl 4 rfl) ?_
      refine wn_ald (j := d) (g := fun j => 9 + 2 * j) hx hb hK hP 3 (by omega) hE2 rfl (by omega) (by decide) dX3_tell_84 ?_
      refine lv_astore (lv' := [(9, .ref (adr (9 + 2 * d))), (8, .int (-1)), (7, .int (nI (t_nm S t (tN x)))), (6, .int (nI (tN x))), (0, .ref (adr 0)), (1, .int (nI d)), (2, .int (nI t)), (3, .long x), (5, .int v)]) hx hb dX3_tell_85 hl (by decide) rfl (fun ls hl => ?_)
      refine lv_iload hx hb dX3_tell_87 (lv_at hl 1 rfl) ?_
      refine lv_iconst (v := (-1)) hx hb dX3_tell_89 (by decide) ?_
      refine lv_icmp_eq (tgt := 105) hx hb dX3_tell_90 (by decide) (fun c90 => ?_) (fun c90 => absurd (rfl) c90)
      refine lv_iload hx hb dX3_tell_105 (lv_at hl 1 rfl) ?_
      refine lv_iconst (v := (-1)) hx hb dX3_tell_107 (by decide) ?_
      refine lv_icmp_ne (tgt := 126) hx hb dX3_tell_108 (by decide) (fun c108 => absurd (rfl) c108) (fun c108 => ?_)
      refine lv_aload_n hx hb dX3_tell_111 rfl (lv_at hl 4 rfl) ?_
      refine va_get (D := D) (ci := 3) (v := .ref (adr 3)) (C := RX3) (T := TX3) (N := 4) hx hb hG inG_X3 hown hK hP 0 (wl_at (by omega) hE0) rfl 2 (by decide) (hG _ g_101) (fun _ h9 => h9) rfl dX3_tell_112 ?_
      refine lv_iload hx hb dX3_tell_115 (lv_at hl 2 rfl) ?_
      refine lv_iload hx hb dX3_tell_117 (lv_at hl 3 rfl) ?_
      refine lv_iload hx hb dX3_tell_119 (lv_at hl 8 rfl) ?_
      refine wn_wV (rest := []) hx hb hml hown hG hN hP hS (cX2_add_w hAd (by omega) hct hK0 hK1 hK2 hK3 hK4 hnm htd (by omega) (a := t_nm S t (tN x)) (b := tN x) v) (cwV 3 hG (gV g_311 g_312 g_313 g_2 g_314) rfl rfl rfl (by decide +kernel) ⟨Nat.le_of_ble_eq_true rfl, Nat.le_of_ble_eq_true rfl⟩) (by omega) hK0 rfl rfl hl.1 rfl (Nat.le_of_ble_eq_true rfl) dX3_tell_121 ⟨Nat.le_of_ble_eq_true rfl, Nat.le_of_ble_eq_true rfl⟩ (fun F3 H locs hFF hP hS => ?_)
      obtain ⟨f0, f1, f2, f3, fG⟩ := hFF
      have fF : ∀ j, j ≠ 3 → j ≠ 3 + 1 → j ≠ 3 + 2 → j ≠ 3 + 3 → j ≠ 3 + 4 → F3 j = E j := fun j z0 z1 z2 z3 _ => fG j z0 z1 z2 z3
      have hR : Rep cA adr (uK S (c_ct S + 1) (upN (c_nm S) (c_ct S) (t_nm S t (tN x))) (upN (c_td S) (c_ct S) (tN x)) (upd (c_vl S) (c_ct S) v) (c_sd S)) F3 := rep_uK hR f0 f1 f2 f3 ((fG (3 + 4) (by omega) (by omega) (by omega) (by omega)).trans hK4) fF (by omega) (fun j => by unfold upN; split; exact bnm; exact hnm j) (fun j => by unfold upN; split; exact hx1; exact htd j)
      have h30 : ∀ j, 30 ≤ j → F3 j = E j := fun j hj => (fF j (by omega) (by omega) (by omega) (by omega) (by omega)).trans (h30 j hj)
      obtain ⟨S1, hS1⟩ : ∃ z9, z9 = uK S (c_ct S + 1) (upN (c_nm S) (c_ct S) (t_nm S t (tN x))) (upN (c_td S) (c_ct S) (tN x)) (upd (c_vl S) (c_ct S) v) (c_sd S) := ⟨_, rfl⟩
      rw [← hS1] at hR
      obtain ⟨hE0, hE1, hE2, hK0, hK1, hK2, hK3, hK4, ⟨hdv, hE8⟩, hDk, hTl, hct, hnm, htd, hmk, hlf⟩ := id hR
      obtain ⟨hD0, hD1⟩ := hDk d hd
      obtain ⟨hT0, hT1, hT2⟩ := hTl t ht
      have hAD : t_ad S t (tN x) v = S1 := by unfold t_ad; rw [if_pos hz, hS1]
      have hIX : t_ix S t (tN x) v = c_ct S := by unfold t_ix; rw [hz]; rfl
      have hc1 : c_ct S1 = c_ct S + 1 := by rw [hS1]; rfl
      have hHT : hasT S d t (tN x) v = false := by unfold hasT; rw [hz]; simp
      refine lv_istore (lv' := [(8, .int (nI (c_ct S))), (9, .ref (adr (9 + 2 * d))), (7, .int (nI (t_nm S t (tN x)))), (6, .int (nI (tN x))), (0, .ref (adr 0)), (1, .int (nI d)), (2, .int (nI t)), (3, .long x), (5, .int v)]) hx hb dX3_tell_124 hl (by decide) rfl (fun ls hl => ?_)
      refine lv_aload_n hx hb dX3_tell_126 rfl (lv_at hl 4 rfl) ?_
      refine lv_aload hx hb dX3_tell_127 (lv_at hl 1 rfl) ?_
      refine lv_iload hx hb dX3_tell_129 (lv_at hl 0 rfl) ?_
      refine wn_rV (rest := []) hx hb hml hown hG hN hP (cX3_hasRival_r hn hR hd (i := (c_ct S)) (by omega)) (cwV 2 hG (gV g_315 g_317 gp_X3_hasRival g_1 g_318) rfl rfl rfl (by decide +kernel) ⟨Nat.le_of_ble_eq_true rfl, Nat.le_of_ble_eq_true rfl⟩) (by omega) hE0 rfl rfl hl.1 rfl (Nat.le_of_ble_eq_true rfl) dX3_tell_131 ⟨Nat.le_of_ble_eq_true rfl, Nat.le_of_ble_eq_true rfl⟩ ?_
      refine lv_if_eq (tgt := 141) hx hb dX3_tell_134 (by decide) (fun c134 => ?_) (fun c134 => ?_)
      · have n134 : (anB (fun r => c_rv S1 (c_ct S) r && c_has S1 d r) (c_ct S1)) = false := bI_0.mp c134
        refine lv_iconst (v := 0) hx hb dX3_tell_141 (by decide) ?_
        refine lv_istore (lv' := [(10, .int 0), (8, .int (nI (c_ct S))), (9, .ref (adr (9 + 2 * d))), (7, .int (nI (t_nm S t (tN x)))), (6, .int (nI (tN x))), (0, .ref (adr 0)), (1, .int (nI d)), (2, .int (nI t)), (3, .long x), (5, .int v)]) hx hb dX3_tell_142 hl (by decide) rfl (fun ls hl => ?_)
        refine lv_aload hx hb dX3_tell_144 (lv_at hl 2 rfl) ?_
        refine lv_iload hx hb dX3_tell_146 (lv_at hl 1 rfl) ?_
        refine wn_wV (rest := []) hx hb hml hown hG hN hP hS (cX0_take_w hAd (by omega) hD0 hD1 (j := (c_ct S)) (by omega)) (cwV 1 hG (gV g_323 g_324 g_325 g_4 g_326) rfl rfl rfl (by decide +kernel) ⟨Nat.le_of_ble_eq_true rfl, Nat.le_of_ble_eq_true rfl⟩) (by omega) hD0 rfl rfl hl.1 rfl (Nat.le_of_ble_eq_true rfl) dX3_tell_148 ⟨Nat.le_of_ble_eq_true rfl, Nat.le_of_ble_eq_true rfl⟩ (fun F4 H locs hFF hP hS => ?_)
        obtain ⟨f0, f1, fF⟩ := hFF
        have hR : Rep cA adr (tk S1 d (c_ct S)) F4 := rep_uD hR hd f0 f1 fF
        have h30 : ∀ j, 30 ≤ j → F4 j = E j := fun j hj => (fF j (by omega) (by omega)).trans (h30 j hj)
        refine lv_iload hx hb dX3_tell_151 (lv_at hl 0 rfl) ?_
        refine W.widen (k := 5) (n := 30) (Nat.le_of_ble_eq_true rfl) (Nat.le_of_ble_eq_true rfl) ?_
        exact vx_ret (W.iret (v := 0) hx hb hr (fun u9 ht _ => ⟨congrArg (fun z => Outcome.returned (some (Value.int z))) (by rw [nI_clamp (by omega), nI_clamp (by omega)]; unfold r_tell; rw [hHT, hAD, hIX, n134]; rfl), by unfold k_tell; rw [hD9, hT9, hOK, nI_clamp (by omega)]; simp only [Bool.and_self, if_true]; rw [if_neg (fun h => by omega)], F4, (by rw [nI_clamp (by omega), nI_clamp (by omega)]; unfold s_tell; rw [hHT, hAD, hIX]; exact hR), h30, by rw [ht]; exact hP, hS.F ht⟩) hS.2.2 dX3_tell_153)
      · have n134 : (anB (fun r => c_rv S1 (c_ct S) r && c_has S1 d r) (c_ct S1)) = true := bI_1.mp c134
        refine lv_iconst (v := 2) hx hb dX3_tell_137 (by decide) ?_
        refine lv_goto (tgt := 142) hx hb dX3_tell_138 (by decide) ?_
        refine lv_istore (lv' := [(10, .int 2), (8, .int (nI (c_ct S))), (9, .ref (adr (9 + 2 * d))), (7, .int (nI (t_nm S t (tN x)))), (6, .int (nI (tN x))), (0, .ref (adr 0)), (1, .int (nI d)), (2, .int (nI t)), (3, .long x), (5, .int v)]) hx hb dX3_tell_142 hl (by decide) rfl (fun ls hl => ?_)
        refine lv_aload hx hb dX3_tell_144 (lv_at hl 2 rfl) ?_
        refine lv_iload hx hb dX3_tell_146 (lv_at hl 1 rfl) ?_
        refine wn_wV (rest := []) hx hb hml hown hG hN hP hS (cX0_take_w hAd (by omega) hD0 hD1 (j := (c_ct S)) (by omega)) (cwV 1 hG (gV g_323 g_324 g_325 g_4 g_326) rfl rfl rfl (by decide +kernel) ⟨Nat.le_of_ble_eq_true rfl, Nat.le_of_ble_eq_true rfl⟩) (by omega) hD0 rfl rfl hl.1 rfl (Nat.le_of_ble_eq_true rfl) dX3_tell_148 ⟨Nat.le_of_ble_eq_true rfl, Nat.le_of_ble_eq_true rfl⟩ (fun F5 H locs hFF hP hS => ?_)
        obtain ⟨f0, f1, fF⟩ := hFF
        have hR : Rep cA adr (tk S1 d (c_ct S)) F5 := rep_uD hR hd f0 f1 fF
        have h30 : ∀ j, 30 ≤ j → F5 j = E j := fun j hj => (fF j (by omega) (by omega)).trans (h30 j hj)
        refine lv_iload hx hb dX3_tell_151 (lv_at hl 0 rfl) ?_
        refine W.widen (k := 5) (n := 30) (Nat.le_of_ble_eq_true rfl) (Nat.le_of_ble_eq_true rfl) ?_
        exact vx_ret (W.iret (v := 2) hx hb hr (fun u9 ht _ => ⟨congrArg (fun z => Outcome.returned (some (Value.int z))) (by rw [nI_clamp (by omega), nI_clamp (by omega)]; unfold r_tell; rw [hHT, hAD, hIX, n134]; rfl), by unfold k_tell; rw [hD9, hT9, hOK, nI_clamp (by omega)]; simp only [Bool.and_self, if_true]; rw [if_neg (fun h => by omega)], F5, (by rw [nI_clamp (by omega), nI_clamp (by omega)]; unfold s_tell; rw [hHT, hAD, hIX]; exact hR), h30, by rw [ht]; exact hP, hS.F ht⟩) hS.2.2 dX3_tell_153)
    · have n66 : ¬ (c_ct S) < 120 := fun h => c66 ((nI_ltI (a := (c_ct S)) (b := 120) (by omega) (by omega)).mpr h)
      exact th_UOE hx hb hls hown hG hN hX (hl.1.trans hml.symm) 7 rfl dX3_tell_69 dX3_tell_72 dX3_tell_73 dX3_tell_75 dX3_tell_78 hno (Nat.le_of_ble_eq_true rfl) (Nat.le_of_ble_eq_true rfl) (Nat.le_of_ble_eq_true rfl) (Nat.le_of_ble_eq_true rfl) hlocks (Or.inr (Or.inr ⟨by unfold k_tell; rw [hD9, hT9, hOK, nI_clamp (by omega)]; simp only [Bool.and_self, if_true]; rw [if_pos ⟨hz, by omega⟩], rfl⟩)) (Nat.le_of_ble_eq_true rfl) (Nat.le_of_ble_eq_true rfl)
