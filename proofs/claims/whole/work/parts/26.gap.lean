theorem hl_fill {hdv : Nat → Bool} {i : Nat} (j : Nat) : upZ (fun j => if j < i then false else hdv j) i false j = if j < i + 1 then false else hdv j := by
  unfold upZ
  by_cases e : j = i
  · subst e; simp
  · by_cases h : j < i
    · simp [e, h, show j < i + 1 from by omega]
    · simp [e, h, show ¬ j < i + 1 from by omega]

set_option maxHeartbeats 4000000 in
set_option maxRecDepth 100000 in
theorem cX3_hear_w {l : Launch} {D : va_G} {cA : Nat → ClassId} {adr : Nat → Nat} {n : Nat} {E : Nat → va_E} {lo : Nat} (hAd : wd_ad lo n adr) {S : CS} (hn : 30 ≤ n) (hR : Rep cA adr S E) {d t : Nat} (hd : d < 3) (ht : t < 5) : Met l yX3_hear (.code yX3_hear cX3_hear 7 (some .int) :: lw_G) ({ frames := 2, cells := 0, slots := 0, locals := 42 } : Room) (va_Pc [.ref (adr 0), .ref (adr (9 + 2 * d)), .int (nI t)] (wdU D (kty cA) adr n E)) (wq D lo adr n (some (.int (oI (gM S d t (c_ct S))))) (fun E2 => (∃ h : Nat → Bool, E2 8 = .inl (cA 1, 100, .inl (fun j => bI (h j))) ∧ ∀ j, j < 100 → h j = c_hN S d t j) ∧ ∀ j, j ≠ 8 → E2 j = E j)) 0 0 (fun q => lo ≤ q) := by
  refine Met.ofW (cc := cX3_hear) (maxL := 7) (ret := (some .int)) (by decide) rfl ?_
  intro p e s m args below meth c s₁ B hml hv
  obtain ⟨rfl, hP, hN⟩ := hv
  have hx := B.exec
  have hb := B.bytes
  have hr := B.returns
  have hG : ∀ w ∈ lw_G, w.before _ s = true := fun w h => atoms_spec (ws := _ :: lw_G) B.pre w (List.mem_cons_of_mem _ h)
  have hown : s.vm.findClass RX3 = some m.cls := findClass_of_methodNamed B.named
  have hlocks := B.notSynchronized
  have hK := hN.1
  have hS : va_S (fun q => lo ≤ q) s.heap s.heap [] := va_S.rf
  have hF : ∀ j, j ≠ 8 → E j = E j := fun j _ => rfl
  have hl := lv_entry ([.ref (adr 0), .ref (adr (9 + 2 * d)), .int (nI t)]) (n := 7) (Nat.le_of_ble_eq_true rfl)
  rw [lg_entry_eq]
  generalize (lg_sl ([.ref (adr 0), .ref (adr (9 + 2 * d)), .int (nI t)]) ++ List.replicate (7 - (lg_sl ([.ref (adr 0), .ref (adr (9 + 2 * d)), .int (nI t)])).length) Slot.unset).toArray = ls at hl ⊢
  have hl : lv_has ls 7 [(0, .ref (adr 0)), (1, .ref (adr (9 + 2 * d))), (2, .int (nI t))] := hl
  obtain ⟨hE0, hE1, hE2, hK0, hK1, hK2, hK3, hK4, ⟨hdv, hE8⟩, hDk, hTl, hct, hnm, htd, hmk, hlf⟩ := id hR
  obtain ⟨hD0, hD1⟩ := hDk d hd
  obtain ⟨hT0, hT1, hT2⟩ := hTl t ht
  have blf := hlf t ht
  have kE0 := hE0
  have kE1 := hE1
  have kK0 := hK0
  have kK1 := hK1
  have kK2 := hK2
  have kK3 := hK3
  have kK4 := hK4
  have kD0 := hD0
  have kD1 := hD1
  have kT0 := hT0
  refine lv_iconst (v := 0) hx hb dX3_hear_0 (by decide) ?_
  refine lv_istore_n (lv' := [(3, .int 0), (0, .ref (adr 0)), (1, .ref (adr (9 + 2 * d))), (2, .int (nI t))]) hx hb dX3_hear_1 rfl hl (by decide) rfl (fun ls hl => ?_)
  have L2 : ∀ (f : Nat) (i : Nat) (E1 : Nat → va_E) (H : Heap) (locs : List Loc), 100 - i < f → i ≤ 100 → E1 8 = .inl (cA 1, 100, .inl (fun j => bI ((fun j => if j < i then false else hdv j) j))) → (∀ j, j ≠ 8 → E1 j = E j) → va_P D kcl (wl adr n E1) H → va_S (fun q => lo ≤ q) s.heap H locs → ∀ ls : Array Slot, lv_has ls 7 [(3, .int (nI i)), (0, .ref (adr 0)), (1, .ref (adr (9 + 2 * d))), (2, .int (nI t))] → W p l e (headSpec (.code yX3_hear cX3_hear 7 (some .int) :: lw_G) ({ frames := 2, cells := 0, slots := 0, locals := 42 } : Room)).room s m [.ref (adr 0), .ref (adr (9 + 2 * d)), .int (nI t)].toArray below meth c H locs 0 0 (MQ below (wq D lo adr n (some (.int (oI (gM S d t (c_ct S))))) (fun E2 => (∃ h : Nat → Bool, E2 8 = .inl (cA 1, 100, .inl (fun j => bI (h j))) ∧ ∀ j, j < 100 → h j = c_hN S d t j) ∧ ∀ j, j ≠ 8 → E2 j = E j)) [.ref (adr 0), .ref (adr (9 + 2 * d)), .int (nI t)].toArray s 0 0 (fun q => lo ≤ q)) (F0 m 2 ls []) := by
    intro f
    induction f with
    | zero => intro i E1 H locs h0; exact absurd h0 (by omega)
    | succ f ih =>
      intro i E1 H locs hf hi hE8 hF hP hS ls hl
      have hE0 := (hF 0 (by omega)).trans kE0
      have hE1 := (hF 1 (by omega)).trans kE1
      have hK0 := (hF 3 (by omega)).trans kK0
      have hK1 := (hF (3 + 1) (by omega)).trans kK1
      have hK2 := (hF (3 + 2) (by omega)).trans kK2
      have hK3 := (hF (3 + 3) (by omega)).trans kK3
      have hK4 := (hF (3 + 4) (by omega)).trans kK4
      have hD0 := (hF (9 + 2 * d) (by omega)).trans kD0
      have hD1 := (hF (9 + 2 * d + 1) (by omega)).trans kD1
      have hT0 := (hF (15 + 3 * t) (by omega)).trans kT0
      refine lv_iload_n hx hb dX3_hear_2 rfl (lv_at hl 0 rfl) ?_
      refine lv_bipush (v := 100) hx hb dX3_hear_3 (by decide) ?_
      refine lv_icmp_ge (tgt := 21) hx hb dX3_hear_5 (by decide) (fun c5 => ?_) (fun c5 => ?_)
      · have n5 : 100 ≤ i := (nI_leI (a := 100) (b := i) (by omega) (by omega)).mp c5
        refine lv_aload_n hx hb dX3_hear_21 rfl (lv_at hl 1 rfl) ?_
        refine va_get (D := D) (ci := 3) (v := .ref (adr 1)) (C := RX3) (T := TX3) (N := 4) hx hb hG inG_X3 hown hK hP 0 (wl_at (by omega) hE0) rfl 0 (by decide) (hG _ g_99) (fun _ h9 => h9) rfl dX3_hear_22 ?_
        refine lv_iload_n hx hb dX3_hear_25 rfl (lv_at hl 3 rfl) ?_
        refine wn_ald (j := t) (g := fun j => 15 + 3 * j) hx hb hK hP 2 (by omega) hE1 rfl (by omega) (by decide) dX3_hear_26 ?_
        refine va_get (D := D) (ci := 1) (v := .int (nI (c_lf S t))) (C := RX1) (T := TX1) (N := 4) hx hb hG inG_X1 hown hK hP (15 + 3 * t) (wl_at (by omega) hT0) rfl 3 (by decide) (hG _ g_64) (fun _ h9 => h9) rfl dX3_hear_27 ?_
        refine lv_istore_n (lv' := [(3, .int (nI (c_lf S t))), (0, .ref (adr 0)), (1, .ref (adr (9 + 2 * d))), (2, .int (nI t))]) hx hb dX3_hear_30 rfl hl (by decide) rfl (fun ls hl => ?_)
        refine lv_iconst (v := (-1)) hx hb dX3_hear_31 (by decide) ?_
        refine lv_istore (lv' := [(4, .int (-1)), (3, .int (nI (c_lf S t))), (0, .ref (adr 0)), (1, .ref (adr (9 + 2 * d))), (2, .int (nI t))]) hx hb dX3_hear_32 hl (by decide) rfl (fun ls hl => ?_)
        refine lv_iconst (v := 0) hx hb dX3_hear_34 (by decide) ?_
        refine lv_istore (lv' := [(5, .int 0), (4, .int (-1)), (3, .int (nI (c_lf S t))), (0, .ref (adr 0)), (1, .ref (adr (9 + 2 * d))), (2, .int (nI t))]) hx hb dX3_hear_35 hl (by decide) rfl (fun ls hl => ?_)
        have L37 : ∀ (f : Nat) (i : Nat) (h : Nat → Bool) (E1 : Nat → va_E) (H : Heap) (locs : List Loc), c_ct S - i < f → i ≤ c_ct S → (∀ j, j < 100 → h j = anB (fun r => c_see S d r && decide (c_nm S r = t * 512 + c_lf S t * 128 + j)) i) → E1 8 = .inl (cA 1, 100, .inl (fun j => bI (h j))) → (∀ j, j ≠ 8 → E1 j = E j) → va_P D kcl (wl adr n E1) H → va_S (fun q => lo ≤ q) s.heap H locs → ∀ ls : Array Slot, lv_has ls 7 [(5, .int (nI i)), (4, .int (oI (gM S d t i))), (3, .int (nI (c_lf S t))), (0, .ref (adr 0)), (1, .ref (adr (9 + 2 * d))), (2, .int (nI t))] → W p l e (headSpec (.code yX3_hear cX3_hear 7 (some .int) :: lw_G) ({ frames := 2, cells := 0, slots := 0, locals := 42 } : Room)).room s m [.ref (adr 0), .ref (adr (9 + 2 * d)), .int (nI t)].toArray below meth c H locs 0 0 (MQ below (wq D lo adr n (some (.int (oI (gM S d t (c_ct S))))) (fun E2 => (∃ h : Nat → Bool, E2 8 = .inl (cA 1, 100, .inl (fun j => bI (h j))) ∧ ∀ j, j < 100 → h j = c_hN S d t j) ∧ ∀ j, j ≠ 8 → E2 j = E j)) [.ref (adr 0), .ref (adr (9 + 2 * d)), .int (nI t)].toArray s 0 0 (fun q => lo ≤ q)) (F0 m 37 ls []) := by
          intro f
          induction f with
          | zero => intro i h E1 H locs h0; exact absurd h0 (by omega)
          | succ f ih =>
            intro i h E1 H locs hf hi hh hE8 hF hP hS ls hl
            have hE0 := (hF 0 (by omega)).trans kE0
            have hE1 := (hF 1 (by omega)).trans kE1
            have hK0 := (hF 3 (by omega)).trans kK0
            have hK1 := (hF (3 + 1) (by omega)).trans kK1
            have hK2 := (hF (3 + 2) (by omega)).trans kK2
            have hK3 := (hF (3 + 3) (by omega)).trans kK3
            have hK4 := (hF (3 + 4) (by omega)).trans kK4
            have hD0 := (hF (9 + 2 * d) (by omega)).trans kD0
            have hD1 := (hF (9 + 2 * d + 1) (by omega)).trans kD1
            have hT0 := (hF (15 + 3 * t) (by omega)).trans kT0
            refine lv_iload hx hb dX3_hear_37 (lv_at hl 0 rfl) ?_
            refine lv_aload_n hx hb dX3_hear_39 rfl (lv_at hl 3 rfl) ?_
            refine va_get (D := D) (ci := 3) (v := .ref (adr 3)) (C := RX3) (T := TX3) (N := 4) hx hb hG inG_X3 hown hK hP 0 (wl_at (by omega) hE0) rfl 2 (by decide) (hG _ g_101) (fun _ h9 => h9) rfl dX3_hear_40 ?_
            refine va_get (D := D) (ci := 2) (v := .int (nI (c_ct S))) (C := RX2) (T := TX2) (N := 5) hx hb hG inG_X2 hown hK hP 3 (wl_at (by omega) hK0) rfl 4 (by decide) (hG _ g_41) (fun _ h9 => h9) rfl dX3_hear_43 ?_
            refine lv_icmp_ge (tgt := 119) hx hb dX3_hear_46 (by decide) (fun c46 => ?_) (fun c46 => ?_)
            · have n46 : (c_ct S) ≤ i := (nI_leI (a := (c_ct S)) (b := i) (by omega) (by omega)).mp c46
              refine lv_iload hx hb dX3_hear_119 (lv_at hl 1 rfl) ?_
              exact W.iret (v := oI (gM S d t i)) hx hb hr (fun t ht _ => ⟨(by rw [show c_ct S = i from by omega]), E1, ⟨⟨h, hE8, fun j hj => by unfold c_hN; rw [show c_ct S = i from by omega]; exact hh j hj⟩, hF⟩, by rw [ht]; exact hP, hS.F ht⟩) hS.2.2 dX3_hear_121
            · have n46 : ¬ (c_ct S) ≤ i := fun h => c46 ((nI_leI (a := (c_ct S)) (b := i) (by omega) (by omega)).mpr h)
              have b1 := hnm i
              refine lv_aload_n hx hb dX3_hear_49 rfl (lv_at hl 3 rfl) ?_
              refine va_get (D := D) (ci := 3) (v := .ref (adr 3)) (C := RX3) (T := TX3) (N := 4) hx hb hG inG_X3 hown hK hP 0 (wl_at (by omega) hE0) rfl 2 (by decide) (hG _ g_101) (fun _ h9 => h9) rfl dX3_hear_50 ?_
              refine lv_iload hx hb dX3_hear_53 (lv_at hl 0 rfl) ?_
              refine wn_rV (rest := []) hx hb hml hown hG hN hP (cX2_number_r (by omega) hct hK0 hK1 hK2 hK3 hK4 hnm htd (i := i) (by omega)) (cwV 1 hG (gV g_455 g_447 g_448 g_2 g_449) rfl rfl rfl (by decide +kernel) ⟨Nat.le_of_ble_eq_true rfl, Nat.le_of_ble_eq_true rfl⟩) (by omega) hK0 rfl rfl hl.1 rfl (Nat.le_of_ble_eq_true rfl) dX3_hear_55 ⟨Nat.le_of_ble_eq_true rfl, Nat.le_of_ble_eq_true rfl⟩ ?_
              refine lv_istore (lv' := [(6, .int (nI (c_nm S i % 128))), (5, .int (nI i)), (4, .int (oI (gM S d t i))), (3, .int (nI (c_lf S t))), (0, .ref (adr 0)), (1, .ref (adr (9 + 2 * d))), (2, .int (nI t))]) hx hb dX3_hear_58 hl (by decide) rfl (fun ls hl => ?_)
              refine lv_aload_n hx hb dX3_hear_60 rfl (lv_at hl 5 rfl) ?_
              refine lv_iload hx hb dX3_hear_61 (lv_at hl 1 rfl) ?_
              refine wn_rV (rest := []) hx hb hml hown hG hN hP (cX0_hasSeen_r (by omega) hD0 hD1 (j := i) (by omega)) (cwV 1 hG (gV g_343 g_344 g_345 g_4 g_346) rfl rfl rfl (by decide +kernel) ⟨Nat.le_of_ble_eq_true rfl, Nat.le_of_ble_eq_true rfl⟩) (by omega) hD0 rfl rfl hl.1 rfl (Nat.le_of_ble_eq_true rfl) dX3_hear_63 ⟨Nat.le_of_ble_eq_true rfl, Nat.le_of_ble_eq_true rfl⟩ ?_
              refine lv_if_eq (tgt := 113) hx hb dX3_hear_66 (by decide) (fun c66 => ?_) (fun c66 => ?_)
              · have n66 : (c_see S d i) = false := bI_0.mp c66
                have hqf : c_hq S d t i = false := by unfold c_hq; rw [n66]; rfl
                have egm : gM S d t (i + 1) = gM S d t i := by simp only [gM]; rw [hqf]; rfl
                rw [← egm] at hl
                refine lv_iinc (v := nI (i + 1)) (lv' := [(5, .int (nI (i + 1))), (6, .int (nI (c_nm S i % 128))), (4, .int (oI (gM S d t (i + 1)))), (3, .int (nI (c_lf S t))), (0, .ref (adr 0)), (1, .ref (adr (9 + 2 * d))), (2, .int (nI t))]) hx hb dX3_hear_113 hl (k := 1) rfl (nI_1 _) (by decide) rfl (fun ls hl => ?_)
                refine lv_goto (tgt := 37) hx hb dX3_hear_116 (by decide) ?_
                exact ih (i + 1) h E1 _ _ (by omega) (by omega) (hh_mis hh hqf) hE8 hF hP hS ls (lv_sub hl [0, 2, 3, 4, 5, 6] rfl)
              · have n66 : (c_see S d i) = true := bI_1.mp c66
                refine lv_aload_n hx hb dX3_hear_69 rfl (lv_at hl 4 rfl) ?_
                refine va_get (D := D) (ci := 3) (v := .ref (adr 3)) (C := RX3) (T := TX3) (N := 4) hx hb hG inG_X3 hown hK hP 0 (wl_at (by omega) hE0) rfl 2 (by decide) (hG _ g_101) (fun _ h9 => h9) rfl dX3_hear_70 ?_
                refine va_get (D := D) (ci := 2) (v := .ref (adr (3 + 1))) (C := RX2) (T := TX2) (N := 5) hx hb hG inG_X2 hown hK hP 3 (wl_at (by omega) hK0) rfl 0 (by decide) (hG _ g_33) (fun _ h9 => h9) rfl dX3_hear_73 ?_
                refine lv_iload hx hb dX3_hear_76 (lv_at hl 1 rfl) ?_
                refine wn_iald (j := i) hx hb hK hP (by omega) hK1 (by omega) (by decide) dX3_hear_78 ?_
                refine lv_iload_n hx hb dX3_hear_79 rfl (lv_at hl 6 rfl) ?_
                refine lv_iload_n hx hb dX3_hear_80 rfl (lv_at hl 3 rfl) ?_
                refine lv_iload hx hb dX3_hear_81 (lv_at hl 0 rfl) ?_
                refine wn_rS (rest := [.int (nI (c_nm S i))]) hx hb hml hown hG (cX3_nameOf_r (t := t) (f := c_lf S t) (u := c_nm S i % 128) (by omega) (by omega) (by omega)) (cwS 3 hG (gS g_284 g_285 g_1 g_286) rfl rfl rfl (by decide +kernel) ⟨Nat.le_of_ble_eq_true rfl, Nat.le_of_ble_eq_true rfl⟩) rfl hl.1 rfl (Nat.le_of_ble_eq_true rfl) dX3_hear_83 ⟨Nat.le_of_ble_eq_true rfl, Nat.le_of_ble_eq_true rfl⟩ ?_
                refine lv_icmp_ne (tgt := 113) hx hb dX3_hear_86 (by decide) (fun c86 => ?_) (fun c86 => ?_)
                · have n86 : ¬ (c_nm S i) = (t * 512 + c_lf S t * 128 + c_nm S i % 128) := fun h => c86 ((nI_eq (a := (c_nm S i)) (b := (t * 512 + c_lf S t * 128 + c_nm S i % 128)) (by omega) (by omega)).mpr h)
                  have hqf : c_hq S d t i = false := by unfold c_hq; rw [decide_eq_false n86, Bool.and_false]; rfl
                  have egm : gM S d t (i + 1) = gM S d t i := by simp only [gM]; rw [hqf]; rfl
                  rw [← egm] at hl
                  refine lv_iinc (v := nI (i + 1)) (lv' := [(5, .int (nI (i + 1))), (6, .int (nI (c_nm S i % 128))), (4, .int (oI (gM S d t (i + 1)))), (3, .int (nI (c_lf S t))), (0, .ref (adr 0)), (1, .ref (adr (9 + 2 * d))), (2, .int (nI t))]) hx hb dX3_hear_113 hl (k := 1) rfl (nI_1 _) (by decide) rfl (fun ls hl => ?_)
                  refine lv_goto (tgt := 37) hx hb dX3_hear_116 (by decide) ?_
                  exact ih (i + 1) h E1 _ _ (by omega) (by omega) (hh_mis hh hqf) hE8 hF hP hS ls (lv_sub hl [0, 2, 3, 4, 5, 6] rfl)
                · have n86 : (c_nm S i) = (t * 512 + c_lf S t * 128 + c_nm S i % 128) := (nI_eq (a := (c_nm S i)) (b := (t * 512 + c_lf S t * 128 + c_nm S i % 128)) (by omega) (by omega)).mp c86
                  refine lv_iload hx hb dX3_hear_89 (lv_at hl 0 rfl) ?_
                  refine lv_bipush (v := 100) hx hb dX3_hear_91 (by decide) ?_
                  refine lv_icmp_ge (tgt := 113) hx hb dX3_hear_93 (by decide) (fun c93 => ?_) (fun c93 => ?_)
                  · have n93 : 100 ≤ (c_nm S i % 128) := (nI_leI (a := 100) (b := (c_nm S i % 128)) (by omega) (by omega)).mp c93
                    have hqf : c_hq S d t i = false := by unfold c_hq; rw [decide_eq_false (by omega : ¬ c_nm S i % 128 < 100), Bool.and_false]
                    have egm : gM S d t (i + 1) = gM S d t i := by simp only [gM]; rw [hqf]; rfl
                    rw [← egm] at hl
                    refine lv_iinc (v := nI (i + 1)) (lv' := [(5, .int (nI (i + 1))), (6, .int (nI (c_nm S i % 128))), (4, .int (oI (gM S d t (i + 1)))), (3, .int (nI (c_lf S t))), (0, .ref (adr 0)), (1, .ref (adr (9 + 2 * d))), (2, .int (nI t))]) hx hb dX3_hear_113 hl (k := 1) rfl (nI_1 _) (by decide) rfl (fun ls hl => ?_)
                    refine lv_goto (tgt := 37) hx hb dX3_hear_116 (by decide) ?_
                    exact ih (i + 1) h E1 _ _ (by omega) (by omega) (hh_mis hh hqf) hE8 hF hP hS ls (lv_sub hl [0, 2, 3, 4, 5, 6] rfl)
                  · have n93 : ¬ 100 ≤ (c_nm S i % 128) := fun h => c93 ((nI_leI (a := 100) (b := (c_nm S i % 128)) (by omega) (by omega)).mpr h)
                    refine lv_aload_n hx hb dX3_hear_96 rfl (lv_at hl 4 rfl) ?_
                    refine va_get (D := D) (ci := 3) (v := .ref (adr 8)) (C := RX3) (T := TX3) (N := 4) hx hb hG inG_X3 hown hK hP 0 (wl_at (by omega) hE0) rfl 3 (by decide) (hG _ g_102) (fun _ h9 => h9) rfl dX3_hear_97 ?_
                    refine lv_iload hx hb dX3_hear_100 (lv_at hl 0 rfl) ?_
                    refine lv_iconst (v := 1) hx hb dX3_hear_102 (by decide) ?_
                    refine lv_topi (fun y9 e9 => ?_)
                    have e9 : y9 = bI true := e9.trans (bI_t.symm)
                    subst e9
                    refine wn_zast (j := (c_nm S i % 128)) hx hb hK hAd hP hS (by omega) hE8 (by omega) (by decide) dX3_hear_103 (fun H locs hP hS => ?_)
                    rw [upd_bI] at hP
                    obtain ⟨E1x, hE1x⟩ : ∃ z, z = va_up E1 8 (.inl (cA 1, 100, .inl (fun j => bI (upZ h (c_nm S i % 128) true j)))) := ⟨_, rfl⟩
                    have hP : va_P D kcl (wl adr n E1x) H := by rw [hE1x]; exact hP
                    have hE0 := (show E1x 0 = E1 0 from by rw [hE1x, va_up_ne _ _ (by omega)]).trans hE0
                    have hE1 := (show E1x 1 = E1 1 from by rw [hE1x, va_up_ne _ _ (by omega)]).trans hE1
                    have hK0 := (show E1x 3 = E1 3 from by rw [hE1x, va_up_ne _ _ (by omega)]).trans hK0
                    have hK1 := (show E1x (3 + 1) = E1 (3 + 1) from by rw [hE1x, va_up_ne _ _ (by omega)]).trans hK1
                    have hK2 := (show E1x (3 + 2) = E1 (3 + 2) from by rw [hE1x, va_up_ne _ _ (by omega)]).trans hK2
                    have hK3 := (show E1x (3 + 3) = E1 (3 + 3) from by rw [hE1x, va_up_ne _ _ (by omega)]).trans hK3
                    have hK4 := (show E1x (3 + 4) = E1 (3 + 4) from by rw [hE1x, va_up_ne _ _ (by omega)]).trans hK4
                    have hD0 := (show E1x (9 + 2 * d) = E1 (9 + 2 * d) from by rw [hE1x, va_up_ne _ _ (by omega)]).trans hD0
                    have hD1 := (show E1x (9 + 2 * d + 1) = E1 (9 + 2 * d + 1) from by rw [hE1x, va_up_ne _ _ (by omega)]).trans hD1
                    have hT0 := (show E1x (15 + 3 * t) = E1 (15 + 3 * t) from by rw [hE1x, va_up_ne _ _ (by omega)]).trans hT0
                    have hE8 : E1x 8 = .inl (cA 1, 100, .inl (fun j => bI (upZ h (c_nm S i % 128) true j))) := by rw [hE1x, va_up_self]
                    have hF : ∀ j, j ≠ 8 → E1x j = E j := fun j z0 => (show E1x j = E1 j from by rw [hE1x, va_up_ne _ _ z0]).trans (hF j z0)
                    refine lv_iload hx hb dX3_hear_104 (lv_at hl 2 rfl) ?_
                    refine lv_iload hx hb dX3_hear_106 (lv_at hl 0 rfl) ?_
                    refine va_mmax hx hb (hml.trans hl.1.symm) hown (hG _ g_484) (hG _ g_485) (hG _ g_13) (hG _ g_486) (Nat.le_of_ble_eq_true rfl) (Nat.le_of_ble_eq_true rfl) (Nat.le_of_ble_eq_true rfl) (Nat.le_of_ble_eq_true rfl) dX3_hear_108 ?_
                    have egm : gM S d t (i + 1) = mx (gM S d t i) (c_nm S i % 128) := by simp only [gM]; rw [hq_t n66 n86 (by omega)]; rfl
                    refine lv_topi (fun y9 e9 => ?_)
                    have e9 : y9 = oI (gM S d t (i + 1)) := e9.trans (by rw [egm]; exact oI_mx (by omega) (fun z hz => by have := gM_lt hz; omega))
                    subst e9
                    refine lv_istore (lv' := [(4, .int (oI (gM S d t (i + 1)))), (6, .int (nI (c_nm S i % 128))), (5, .int (nI i)), (3, .int (nI (c_lf S t))), (0, .ref (adr 0)), (1, .ref (adr (9 + 2 * d))), (2, .int (nI t))]) hx hb dX3_hear_111 hl (by decide) rfl (fun ls hl => ?_)
                    refine lv_iinc (v := nI (i + 1)) (lv' := [(5, .int (nI (i + 1))), (4, .int (oI (gM S d t (i + 1)))), (6, .int (nI (c_nm S i % 128))), (3, .int (nI (c_lf S t))), (0, .ref (adr 0)), (1, .ref (adr (9 + 2 * d))), (2, .int (nI t))]) hx hb dX3_hear_113 hl (k := 2) rfl (nI_1 _) (by decide) rfl (fun ls hl => ?_)
                    refine lv_goto (tgt := 37) hx hb dX3_hear_116 (by decide) ?_
                    exact ih (i + 1) (upZ h (c_nm S i % 128) true) E1x _ _ (by omega) (by omega) (hh_hit hh n66 n86) hE8 hF hP hS ls (lv_sub hl [0, 1, 3, 4, 5, 6] rfl)
        exact L37 (c_ct S + 1) 0 (fun j => if j < 100 then false else hdv j) E1 _ _ (by omega) (by omega) (fun j hj => by simp [hj, anB]) (by rw [show i = 100 from by omega] at hE8; exact hE8) hF hP hS ls (lv_sub hl [0, 1, 2, 3, 4, 5] rfl)
      · have n5 : ¬ 100 ≤ i := fun h => c5 ((nI_leI (a := 100) (b := i) (by omega) (by omega)).mpr h)
        refine lv_aload_n hx hb dX3_hear_8 rfl (lv_at hl 1 rfl) ?_
        refine va_get (D := D) (ci := 3) (v := .ref (adr 8)) (C := RX3) (T := TX3) (N := 4) hx hb hG inG_X3 hown hK hP 0 (wl_at (by omega) hE0) rfl 3 (by decide) (hG _ g_102) (fun _ h9 => h9) rfl dX3_hear_9 ?_
        refine lv_iload_n hx hb dX3_hear_12 rfl (lv_at hl 0 rfl) ?_
        refine lv_iconst (v := 0) hx hb dX3_hear_13 (by decide) ?_
        refine lv_topi (fun y9 e9 => ?_)
        have e9 : y9 = bI false := e9.trans (bI_f.symm)
        subst e9
        refine wn_zast (j := i) hx hb hK hAd hP hS (by omega) hE8 (by omega) (by decide) dX3_hear_14 (fun H locs hP hS => ?_)
        rw [upd_bI] at hP
        obtain ⟨E2x, hE2x⟩ : ∃ z, z = va_up E1 8 (.inl (cA 1, 100, .inl (fun j => bI (upZ (fun j => if j < i then false else hdv j) i false j)))) := ⟨_, rfl⟩
        have hP : va_P D kcl (wl adr n E2x) H := by rw [hE2x]; exact hP
        have hE0 := (show E2x 0 = E1 0 from by rw [hE2x, va_up_ne _ _ (by omega)]).trans hE0
        have hE1 := (show E2x 1 = E1 1 from by rw [hE2x, va_up_ne _ _ (by omega)]).trans hE1
        have hK0 := (show E2x 3 = E1 3 from by rw [hE2x, va_up_ne _ _ (by omega)]).trans hK0
        have hK1 := (show E2x (3 + 1) = E1 (3 + 1) from by rw [hE2x, va_up_ne _ _ (by omega)]).trans hK1
        have hK2 := (show E2x (3 + 2) = E1 (3 + 2) from by rw [hE2x, va_up_ne _ _ (by omega)]).trans hK2
        have hK3 := (show E2x (3 + 3) = E1 (3 + 3) from by rw [hE2x, va_up_ne _ _ (by omega)]).trans hK3
        have hK4 := (show E2x (3 + 4) = E1 (3 + 4) from by rw [hE2x, va_up_ne _ _ (by omega)]).trans hK4
        have hD0 := (show E2x (9 + 2 * d) = E1 (9 + 2 * d) from by rw [hE2x, va_up_ne _ _ (by omega)]).trans hD0
        have hD1 := (show E2x (9 + 2 * d + 1) = E1 (9 + 2 * d + 1) from by rw [hE2x, va_up_ne _ _ (by omega)]).trans hD1
        have hT0 := (show E2x (15 + 3 * t) = E1 (15 + 3 * t) from by rw [hE2x, va_up_ne _ _ (by omega)]).trans hT0
        have hE8 : E2x 8 = .inl (cA 1, 100, .inl (fun j => bI (upZ (fun j => if j < i then false else hdv j) i false j))) := by rw [hE2x, va_up_self]
        have hF : ∀ j, j ≠ 8 → E2x j = E j := fun j z0 => (show E2x j = E1 j from by rw [hE2x, va_up_ne _ _ z0]).trans (hF j z0)
        refine lv_iinc (v := nI (i + 1)) (lv' := [(3, .int (nI (i + 1))), (0, .ref (adr 0)), (1, .ref (adr (9 + 2 * d))), (2, .int (nI t))]) hx hb dX3_hear_15 hl (k := 0) rfl (nI_1 _) (by decide) rfl (fun ls hl => ?_)
        refine lv_goto (tgt := 2) hx hb dX3_hear_18 (by decide) ?_
        exact ih (i + 1) E2x _ _ (by omega) (by omega) (hE8.trans (congrArg (fun z => Sum.inl (cA 1, 100, Sum.inl z)) (funext fun j => congrArg bI (hl_fill j)))) hF hP hS ls (lv_sub hl [0, 1, 2, 3] rfl)
  exact L2 (100 + 1) 0 E _ _ (by omega) (by omega) (hE8.trans (congrArg (fun z => Sum.inl (cA 1, 100, Sum.inl z)) (funext fun j => by simp))) hF hP hS ls (lv_sub hl [0, 1, 2, 3] rfl)
