set_option maxHeartbeats 4000000 in
set_option maxRecDepth 100000 in
theorem cX3_gap_x {l : Launch} {D : va_G} {cA : Nat → ClassId} {adr : Nat → Nat} {n : Nat} {E : Nat → va_E} {sa : Nat → Nat} {lo : Nat} (hls : l.stackTraces = false) (hAd : wd_ad lo n adr) {S : CS} (hn : 30 ≤ n) (hR : Rep cA adr S E) (dd tt kk : Int32) : vx_Met l yX3_gap (.code yX3_gap cX3_gap 8 (some .int) :: lw_G) ({ frames := 7, cells := 3, slots := 18, locals := 102 } : Room) (va_Pc [.ref (adr 0), .int dd, .int tt, .int kk] (wdX D (kty cA) sa lo adr n E)) (pq D cA lo adr n E (k_gap S dd tt kk = 0) (r_gap S dd tt kk) S) (xT (fun X => k_gap S dd tt kk = 1 ∧ X = nIOB)) 3 18 (fun q => lo ≤ q) := by
  refine vx_ofW (cc := cX3_gap) (maxL := 8) (ret := (some .int)) (by decide) rfl ?_
  intro p e s m args below meth c s₁ B hml hno hv
  obtain ⟨rfl, hP, hN, hX⟩ := hv
  have hx := B.exec
  have hb := B.bytes
  have hr := B.returns
  have hG : ∀ w ∈ lw_G, w.before _ s = true := fun w h => atoms_spec (ws := _ :: lw_G) B.pre w (List.mem_cons_of_mem _ h)
  have hown : s.vm.findClass RX3 = some m.cls := findClass_of_methodNamed B.named
  have hlocks := B.notSynchronized
  have hK := hN.1
  have hS : va_S (fun q => lo ≤ q) s.heap s.heap [] := va_S.rf
  have hl := lv_entry ([.ref (adr 0), .int dd, .int tt, .int kk]) (n := 8) (Nat.le_of_ble_eq_true rfl)
  rw [lg_entry_eq]
  generalize (lg_sl ([.ref (adr 0), .int dd, .int tt, .int kk]) ++ List.replicate (8 - (lg_sl ([.ref (adr 0), .int dd, .int tt, .int kk])).length) Slot.unset).toArray = ls at hl ⊢
  have hl : lv_has ls 8 [(0, .ref (adr 0)), (1, .int dd), (2, .int tt), (3, .int kk)] := hl
  obtain ⟨hE0, hE1, hE2, hK0, hK1, hK2, hK3, hK4, ⟨hdv, hE8⟩, hDk, hTl, hct, hnm, htd, hmk, hlf⟩ := id hR
  have h30 : ∀ j, 30 ≤ j → E j = E j := fun _ _ => rfl
  refine lv_iload_n hx hb dX3_gap_0 rfl (lv_at hl 1 rfl) ?_
  refine wx_S (rest := []) hx hb hml hown hG hN hX hP (cX3_needDesk_x hls _) (cwS 1 hG (gS g_266 g_267 g_1 g_268) rfl rfl rfl (by decide +kernel) ⟨(Nat.le_of_ble_eq_true rfl), (Nat.le_of_ble_eq_true rfl)⟩) rfl hl.1 rfl (Nat.le_of_ble_eq_true rfl) dX3_gap_1 ⟨(Nat.le_of_ble_eq_true rfl), (Nat.le_of_ble_eq_true rfl)⟩ hno hlocks (Nat.le_of_ble_eq_true rfl) (Nat.le_of_ble_eq_true rfl) (fun X h => ⟨by unfold k_gap; rw [h.2]; rfl, h.1⟩) (fun hC => ?_)
  have hD9 := hC
  obtain ⟨d, hd, rfl⟩ := inN_of hC (by decide)
  obtain ⟨hD0, hD1⟩ := hDk d hd
  refine lv_iload_n hx hb dX3_gap_4 rfl (lv_at hl 2 rfl) ?_
  refine wx_S (rest := []) hx hb hml hown hG hN hX hP (cX3_needTeller_x hls _) (cwS 1 hG (gS g_122 g_123 g_1 g_124) rfl rfl rfl (by decide +kernel) ⟨(Nat.le_of_ble_eq_true rfl), (Nat.le_of_ble_eq_true rfl)⟩) rfl hl.1 rfl (Nat.le_of_ble_eq_true rfl) dX3_gap_5 ⟨(Nat.le_of_ble_eq_true rfl), (Nat.le_of_ble_eq_true rfl)⟩ hno hlocks (Nat.le_of_ble_eq_true rfl) (Nat.le_of_ble_eq_true rfl) (fun X h => ⟨by unfold k_gap; rw [h.2, Bool.and_false]; rfl, h.1⟩) (fun hC => ?_)
  have hT9 := hC
  obtain ⟨t, ht, rfl⟩ := inN_of hC (by decide)
  obtain ⟨hT0, hT1, hT2⟩ := hTl t ht
  refine lv_iload_n hx hb dX3_gap_8 rfl (lv_at hl 3 rfl) ?_
  refine lv_if_ge (tgt := 22) hx hb dX3_gap_9 (by decide) (fun c9 => ?_) (fun c9 => ?_)
  · obtain ⟨q, hq, rfl⟩ := nI_of (x := kk) (Int32.not_lt.mpr c9)
    refine lv_aload_n hx hb dX3_gap_22 rfl (lv_at hl 0 rfl) ?_
    refine lv_aload_n hx hb dX3_gap_23 rfl (lv_at hl 0 rfl) ?_
    refine va_get (D := D) (ci := 3) (v := .ref (adr 2)) (C := RX3) (T := TX3) (N := 4) hx hb hG inG_X3 hown hK hP 0 (wl_at (by omega) hE0) rfl 1 (by decide) (hG _ g_100) (fun _ h9 => h9) rfl dX3_gap_24 ?_
    refine lv_iload_n hx hb dX3_gap_27 rfl (lv_at hl 1 rfl) ?_
    refine wn_ald (j := d) (g := fun j => 9 + 2 * j) hx hb hK hP 3 (by omega) hE2 rfl (by omega) (by decide) dX3_gap_28 ?_
    refine lv_iload_n hx hb dX3_gap_29 rfl (lv_at hl 2 rfl) ?_
    refine wn_wV (rest := []) hx hb hml hown hG hN hP hS (cX3_hear_w hAd hn hR hd ht) (cwV 2 hG (gV g_480 g_482 gp_X3_hear g_1 g_483) rfl rfl rfl (by decide +kernel) ⟨Nat.le_of_ble_eq_true rfl, Nat.le_of_ble_eq_true rfl⟩) (by omega) hE0 rfl rfl hl.1 rfl (Nat.le_of_ble_eq_true rfl) dX3_gap_30 ⟨Nat.le_of_ble_eq_true rfl, Nat.le_of_ble_eq_true rfl⟩ (fun F1 H locs hFF hP hS => ?_)
    obtain ⟨⟨h, h8, hh⟩, fF⟩ := hFF
    have hR : Rep cA adr S F1 := rep_H hR h8 fF
    have h30 : ∀ j, 30 ≤ j → F1 j = E j := fun j hj => (fF j (by omega)).trans (h30 j hj)
    have hE0 := (fF 0 (by omega)).trans hE0
    have hE8 := h8
    rcases hg : gM S d t (c_ct S) with _ | z
    · have hrg : ∀ q : Nat, q < 2 ^ 31 → r_gap S (nI d) (nI t) (nI q) = gapR h 0 q := fun q hq => by unfold r_gap; rw [nI_clamp (by omega), nI_clamp (by omega), nI_clamp hq, hg]; rfl
      refine lv_istore (lv' := [(4, .int (-1)), (0, .ref (adr 0)), (1, .int (nI d)), (2, .int (nI t)), (3, .int (nI q))]) hx hb dX3_gap_33 hl (by decide) rfl (fun ls hl => ?_)
      refine lv_iconst (v := (-1)) hx hb dX3_gap_35 (by decide) ?_
      refine lv_istore (lv' := [(5, .int (-1)), (4, .int (-1)), (0, .ref (adr 0)), (1, .int (nI d)), (2, .int (nI t)), (3, .int (nI q))]) hx hb dX3_gap_36 hl (by decide) rfl (fun ls hl => ?_)
      refine lv_iload_n hx hb dX3_gap_38 rfl (lv_at hl 5 rfl) ?_
      refine lv_istore (lv' := [(6, .int (nI q)), (5, .int (-1)), (4, .int (-1)), (0, .ref (adr 0)), (1, .int (nI d)), (2, .int (nI t)), (3, .int (nI q))]) hx hb dX3_gap_39 hl (by decide) rfl (fun ls hl => ?_)
      refine lv_iconst (v := 0) hx hb dX3_gap_41 (by decide) ?_
      refine lv_istore (lv' := [(7, .int 0), (6, .int (nI q)), (5, .int (-1)), (4, .int (-1)), (0, .ref (adr 0)), (1, .int (nI d)), (2, .int (nI t)), (3, .int (nI q))]) hx hb dX3_gap_42 hl (by decide) rfl (fun ls hl => ?_)
      refine lv_iload hx hb dX3_gap_44 (lv_at hl 0 rfl) ?_
      refine lv_iload hx hb dX3_gap_46 (lv_at hl 3 rfl) ?_
      refine lv_icmp_gt (tgt := 120) hx hb dX3_gap_48 (by decide) (fun c48 => ?_) (fun c48 => absurd (by decide) c48)
      refine lv_iconst (v := (-1)) hx hb dX3_gap_120 (by decide) ?_
      refine W.widen (k := 3) (n := 18) (Nat.le_of_ble_eq_true rfl) (Nat.le_of_ble_eq_true rfl) ?_
      exact vx_ret (W.iret (v := (-1)) hx hb hr (fun u9 ht _ => ⟨congrArg (fun z => Outcome.returned (some (Value.int z))) (by rw [hrg q (by omega)]; exact (gap_none rfl).symm), by unfold k_gap; rw [hD9, hT9, decide_eq_true c9]; rfl, F1, hR, h30, by rw [ht]; exact hP, hS.F ht⟩) hS.2.2 dX3_gap_121)
    · have bz := gM_lt hg
      have hrg : ∀ q : Nat, q < 2 ^ 31 → r_gap S (nI d) (nI t) (nI q) = gapR h (z + 1) q := fun q hq => by unfold r_gap; rw [nI_clamp (by omega), nI_clamp (by omega), nI_clamp hq, hg]; exact gapR_congr (fun j hj => (hh j (by have hj : j < z + 1 := hj; omega)).symm)
      refine lv_istore (lv' := [(4, .int (nI z)), (0, .ref (adr 0)), (1, .int (nI d)), (2, .int (nI t)), (3, .int (nI q))]) hx hb dX3_gap_33 hl (by decide) rfl (fun ls hl => ?_)
      refine lv_iconst (v := (-1)) hx hb dX3_gap_35 (by decide) ?_
      refine lv_istore (lv' := [(5, .int (-1)), (4, .int (nI z)), (0, .ref (adr 0)), (1, .int (nI d)), (2, .int (nI t)), (3, .int (nI q))]) hx hb dX3_gap_36 hl (by decide) rfl (fun ls hl => ?_)
      refine lv_iload_n hx hb dX3_gap_38 rfl (lv_at hl 5 rfl) ?_
      refine lv_istore (lv' := [(6, .int (nI q)), (5, .int (-1)), (4, .int (nI z)), (0, .ref (adr 0)), (1, .int (nI d)), (2, .int (nI t)), (3, .int (nI q))]) hx hb dX3_gap_39 hl (by decide) rfl (fun ls hl => ?_)
      refine lv_iconst (v := 0) hx hb dX3_gap_41 (by decide) ?_
      refine lv_istore (lv' := [(7, .int 0), (6, .int (nI q)), (5, .int (-1)), (4, .int (nI z)), (0, .ref (adr 0)), (1, .int (nI d)), (2, .int (nI t)), (3, .int (nI q))]) hx hb dX3_gap_42 hl (by decide) rfl (fun ls hl => ?_)
      have L44 : ∀ (f : Nat) (i : Nat), z + 1 - i < f → i ≤ z + 1 → gC h i ≤ q → fiB (gapB h q) i = none → ∀ ls : Array Slot, lv_has ls 8 [(7, .int (nI i)), (5, .int (oI (gF h i))), (6, .int (nI (q - gC h i))), (4, .int (nI z)), (0, .ref (adr 0)), (1, .int (nI d)), (2, .int (nI t)), (3, .int (nI q))] → W p l e (headSpec (.code yX3_gap cX3_gap 8 (some .int) :: lw_G) ({ frames := 7, cells := 3, slots := 18, locals := 102 } : Room)).room s m [.ref (adr 0), .int (nI d), .int (nI t), .int (nI q)].toArray below meth c H locs 2 12 (vx_MQ below (pq D cA lo adr n E (k_gap S (nI d) (nI t) (nI q) = 0) (r_gap S (nI d) (nI t) (nI q)) S) (xT (fun X => k_gap S (nI d) (nI t) (nI q) = 1 ∧ X = nIOB)) [.ref (adr 0), .int (nI d), .int (nI t), .int (nI q)].toArray s 3 18 (fun q => lo ≤ q)) (F0 m 44 ls []) := by
        intro f
        induction f with
        | zero => intro i h0; exact absurd h0 (by omega)
        | succ f ih =>
          intro i hf hi hc hq ls hl
          refine lv_iload hx hb dX3_gap_44 (lv_at hl 0 rfl) ?_
          refine lv_iload hx hb dX3_gap_46 (lv_at hl 3 rfl) ?_
          refine lv_icmp_gt (tgt := 120) hx hb dX3_gap_48 (by decide) (fun c48 => ?_) (fun c48 => ?_)
          · have n48 : z < i := (nI_ltI (a := z) (b := i) (by omega) (by omega)).mp c48
            refine lv_iconst (v := (-1)) hx hb dX3_gap_120 (by decide) ?_
            refine W.widen (k := 3) (n := 18) (Nat.le_of_ble_eq_true rfl) (Nat.le_of_ble_eq_true rfl) ?_
            exact vx_ret (W.iret (v := (-1)) hx hb hr (fun u9 ht _ => ⟨congrArg (fun z => Outcome.returned (some (Value.int z))) (by rw [hrg q (by omega), gap_none (by rw [show z + 1 = i from by omega]; exact hq)]), by unfold k_gap; rw [hD9, hT9, decide_eq_true c9]; rfl, F1, hR, h30, by rw [ht]; exact hP, hS.F ht⟩) hS.2.2 dX3_gap_121)
          · have n48 : ¬ z < i := fun h7 => c48 ((nI_ltI (a := z) (b := i) (by omega) (by omega)).mpr h7)
            refine lv_iload hx hb dX3_gap_51 (lv_at hl 0 rfl) ?_
            refine lv_bipush (v := 100) hx hb dX3_gap_53 (by decide) ?_
            refine lv_icmp_ge (tgt := 120) hx hb dX3_gap_55 (by decide) (fun c55 => ?_) (fun c55 => ?_)
            · have n55 : 100 ≤ i := (nI_leI (a := 100) (b := i) (by omega) (by omega)).mp c55
              exact absurd n55 (by omega)
            · have n55 : ¬ 100 ≤ i := fun h7 => c55 ((nI_leI (a := 100) (b := i) (by omega) (by omega)).mpr h7)
              refine lv_aload_n hx hb dX3_gap_58 rfl (lv_at hl 4 rfl) ?_
              refine va_get (D := D) (ci := 3) (v := .ref (adr 8)) (C := RX3) (T := TX3) (N := 4) hx hb hG inG_X3 hown hK hP 0 (wl_at (by omega) hE0) rfl 3 (by decide) (hG _ g_102) (fun _ h9 => h9) rfl dX3_gap_59 ?_
              refine lv_iload hx hb dX3_gap_62 (lv_at hl 0 rfl) ?_
              refine wn_zald (j := i) hx hb hK hP (by omega) hE8 (by omega) (by decide) dX3_gap_64 ?_
              refine lv_if_ne (tgt := 86) hx hb dX3_gap_65 (by decide) (fun c65 => ?_) (fun c65 => ?_)
              · have n65 : (h i) = true := bI_1.mp c65
                refine lv_iload hx hb dX3_gap_86 (lv_at hl 1 rfl) ?_
                refine lv_iconst (v := (-1)) hx hb dX3_gap_88 (by decide) ?_
                refine lv_icmp_eq (tgt := 114) hx hb dX3_gap_89 (by decide) (fun c89 => ?_) (fun c89 => ?_)
                · have hy : gF h i = none := (oI_n1 (fun z hz => by have := gF_lt hz; omega)).mp c89
                  have ec := gC_n (h := h) (i := i) hy
                  have egf : gF h (i + 1) = gF h i := (gF_t n65).trans hy.symm
                  rw [← ec, ← egf] at hl
                  refine lv_iinc (v := nI (i + 1)) (lv' := [(7, .int (nI (i + 1))), (5, .int (oI (gF h (i + 1)))), (6, .int (nI (q - gC h (i + 1)))), (4, .int (nI z)), (0, .ref (adr 0)), (1, .int (nI d)), (2, .int (nI t)), (3, .int (nI q))]) hx hb dX3_gap_114 hl (k := 0) rfl (nI_1 _) (by decide) rfl (fun ls hl => ?_)
                  refine lv_goto (tgt := 44) hx hb dX3_gap_117 (by decide) ?_
                  exact ih (i + 1) (by omega) (by omega) (by omega) (fiB_miss hq (gapB_n hy)) ls (lv_sub hl [0, 1, 2, 3, 4, 5, 6, 7] rfl)
                · obtain ⟨y, hy⟩ := oI_ne c89
                  have by_ := gF_lt hy
                  rw [hy] at hl
                  have ec := gC_s n65 hy
                  refine lv_iload hx hb dX3_gap_92 (lv_at hl 2 rfl) ?_
                  refine lv_if_ne (tgt := 108) hx hb dX3_gap_94 (by decide) (fun c94 => ?_) (fun c94 => ?_)
                  · have n94 : ¬ (q - gC h i) = 0 := fun h7 => c94 ((nI_eq (a := (q - gC h i)) (b := 0) (by omega) (by omega)).mpr h7)
                    refine lv_iinc (v := nI (q - gC h (i + 1))) (lv' := [(6, .int (nI (q - gC h (i + 1)))), (7, .int (nI i)), (5, .int (nI y)), (4, .int (nI z)), (0, .ref (adr 0)), (1, .int (nI d)), (2, .int (nI t)), (3, .int (nI q))]) hx hb dX3_gap_108 hl (k := 2) rfl (by rw [ec]; obtain ⟨x, hx9⟩ : ∃ x, q - gC h i = x + 1 := ⟨q - gC h i - 1, by omega⟩; rw [hx9, show q - (gC h i + 1) = x from by omega]; exact pk_m1 x) (by decide) rfl (fun ls hl => ?_)
                    refine lv_iconst (v := (-1)) hx hb dX3_gap_111 (by decide) ?_
                    refine lv_topi (fun y9 e9 => ?_)
                    have e9 : y9 = oI (gF h (i + 1)) := e9.trans (by rw [gF_t n65]; rfl)
                    subst e9
                    refine lv_istore (lv' := [(5, .int (oI (gF h (i + 1)))), (6, .int (nI (q - gC h (i + 1)))), (7, .int (nI i)), (4, .int (nI z)), (0, .ref (adr 0)), (1, .int (nI d)), (2, .int (nI t)), (3, .int (nI q))]) hx hb dX3_gap_112 hl (by decide) rfl (fun ls hl => ?_)
                    refine lv_iinc (v := nI (i + 1)) (lv' := [(7, .int (nI (i + 1))), (5, .int (oI (gF h (i + 1)))), (6, .int (nI (q - gC h (i + 1)))), (4, .int (nI z)), (0, .ref (adr 0)), (1, .int (nI d)), (2, .int (nI t)), (3, .int (nI q))]) hx hb dX3_gap_114 hl (k := 2) rfl (nI_1 _) (by decide) rfl (fun ls hl => ?_)
                    refine lv_goto (tgt := 44) hx hb dX3_gap_117 (by decide) ?_
                    exact ih (i + 1) (by omega) (by omega) (by omega) (fiB_miss hq (gapB_c (by omega))) ls (lv_sub hl [0, 1, 2, 3, 4, 5, 6, 7] rfl)
                  · have n94 : (q - gC h i) = 0 := (nI_eq (a := (q - gC h i)) (b := 0) (by omega) (by omega)).mp c94
                    refine lv_bipush (v := 100) hx hb dX3_gap_97 (by decide) ?_
                    refine lv_iload hx hb dX3_gap_99 (lv_at hl 1 rfl) ?_
                    refine lv_imul hx hb dX3_gap_101 ?_
                    refine lv_iload hx hb dX3_gap_102 (lv_at hl 0 rfl) ?_
                    refine lv_iadd hx hb dX3_gap_104 ?_
                    refine lv_iconst (v := 1) hx hb dX3_gap_105 (by decide) ?_
                    refine lv_isub hx hb dX3_gap_106 ?_
                    refine W.widen (k := 3) (n := 18) (Nat.le_of_ble_eq_true rfl) (Nat.le_of_ble_eq_true rfl) ?_
                    exact vx_ret (W.iret (v := ((100 * (nI y)) + (nI i)) - 1) hx hb hr (fun u9 ht _ => ⟨congrArg (fun z => Outcome.returned (some (Value.int z))) (by rw [hrg q (by omega), gap_some (fiB_hit hq (gapB_t n65 hy (by omega)) (by omega)) hy]; exact gap_val by_), by unfold k_gap; rw [hD9, hT9, decide_eq_true c9]; rfl, F1, hR, h30, by rw [ht]; exact hP, hS.F ht⟩) hS.2.2 dX3_gap_107)
              · have n65 : (h i) = false := bI_0.mp c65
                have ec := gC_f n65
                rw [← ec] at hl
                refine lv_iload hx hb dX3_gap_68 (lv_at hl 1 rfl) ?_
                refine lv_iconst (v := (-1)) hx hb dX3_gap_70 (by decide) ?_
                refine lv_icmp_ne (tgt := 79) hx hb dX3_gap_71 (by decide) (fun c71 => ?_) (fun c71 => ?_)
                · obtain ⟨y, hy⟩ := oI_ne c71
                  have egf := gF_s n65 hy
                  refine lv_iload hx hb dX3_gap_79 (lv_at hl 1 rfl) ?_
                  refine lv_topi (fun y9 e9 => ?_)
                  have e9 : y9 = oI (gF h (i + 1)) := e9.trans (by rw [egf])
                  subst e9
                  refine lv_istore (lv' := [(5, .int (oI (gF h (i + 1)))), (7, .int (nI i)), (6, .int (nI (q - gC h (i + 1)))), (4, .int (nI z)), (0, .ref (adr 0)), (1, .int (nI d)), (2, .int (nI t)), (3, .int (nI q))]) hx hb dX3_gap_81 hl (by decide) rfl (fun ls hl => ?_)
                  refine lv_goto (tgt := 114) hx hb dX3_gap_83 (by decide) ?_
                  refine lv_iinc (v := nI (i + 1)) (lv' := [(7, .int (nI (i + 1))), (5, .int (oI (gF h (i + 1)))), (6, .int (nI (q - gC h (i + 1)))), (4, .int (nI z)), (0, .ref (adr 0)), (1, .int (nI d)), (2, .int (nI t)), (3, .int (nI q))]) hx hb dX3_gap_114 hl (k := 1) rfl (nI_1 _) (by decide) rfl (fun ls hl => ?_)
                  refine lv_goto (tgt := 44) hx hb dX3_gap_117 (by decide) ?_
                  exact ih (i + 1) (by omega) (by omega) (by omega) (fiB_miss hq (gapB_f n65)) ls (lv_sub hl [0, 1, 2, 3, 4, 5, 6, 7] rfl)
                · have hy : gF h i = none := (oI_n1 (fun z hz => by have := gF_lt hz; omega)).mp c71
                  have egf := gF_n n65 hy
                  refine lv_iload hx hb dX3_gap_74 (lv_at hl 0 rfl) ?_
                  refine lv_goto (tgt := 81) hx hb dX3_gap_76 (by decide) ?_
                  refine lv_topi (fun y9 e9 => ?_)
                  have e9 : y9 = oI (gF h (i + 1)) := e9.trans (by rw [egf]; rfl)
                  subst e9
                  refine lv_istore (lv' := [(5, .int (oI (gF h (i + 1)))), (7, .int (nI i)), (6, .int (nI (q - gC h (i + 1)))), (4, .int (nI z)), (0, .ref (adr 0)), (1, .int (nI d)), (2, .int (nI t)), (3, .int (nI q))]) hx hb dX3_gap_81 hl (by decide) rfl (fun ls hl => ?_)
                  refine lv_goto (tgt := 114) hx hb dX3_gap_83 (by decide) ?_
                  refine lv_iinc (v := nI (i + 1)) (lv' := [(7, .int (nI (i + 1))), (5, .int (oI (gF h (i + 1)))), (6, .int (nI (q - gC h (i + 1)))), (4, .int (nI z)), (0, .ref (adr 0)), (1, .int (nI d)), (2, .int (nI t)), (3, .int (nI q))]) hx hb dX3_gap_114 hl (k := 1) rfl (nI_1 _) (by decide) rfl (fun ls hl => ?_)
                  refine lv_goto (tgt := 44) hx hb dX3_gap_117 (by decide) ?_
                  exact ih (i + 1) (by omega) (by omega) (by omega) (fiB_miss hq (gapB_f n65)) ls (lv_sub hl [0, 1, 2, 3, 4, 5, 6, 7] rfl)
      exact L44 (z + 1 + 1) 0 (by omega) (by omega) (Nat.zero_le _) rfl ls (lv_sub hl [0, 2, 1, 3, 4, 5, 6, 7] rfl)
  · exact th_IOB hx hb hls hown hG hN hX (hl.1.trans hml.symm) 11 rfl dX3_gap_12 dX3_gap_15 dX3_gap_16 dX3_gap_18 dX3_gap_21 hno (Nat.le_of_ble_eq_true rfl) (Nat.le_of_ble_eq_true rfl) (Nat.le_of_ble_eq_true rfl) (Nat.le_of_ble_eq_true rfl) hlocks ⟨by unfold k_gap; rw [show decide (0 ≤ kk) = false from by simpa using c9, Bool.and_false]; rfl, rfl⟩ (Nat.le_of_ble_eq_true rfl) (Nat.le_of_ble_eq_true rfl)
