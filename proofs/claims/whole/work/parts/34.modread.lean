set_option maxHeartbeats 4000000 in
set_option maxRecDepth 100000 in
theorem cX4_realOf_r {l : Launch} {D : va_G} {cA : Nat → ClassId} {adr : Nat → Nat} {n : Nat} {E : Nat → va_E} {S : CS} {th : Int32} (hn : 45 ≤ n) (hV : Inv S) (hR : RepM cA adr S th E) {t : Nat} (ht : t < 5) (x : Int32) : Met l yX4_realOf (.code yX4_realOf cX4_realOf 9 (some .int) :: lw_G) ({ frames := 0, cells := 0, slots := 0, locals := 0 } : Room) (va_Pc [.ref (adr 30), .int (nI t), .int x] (wdU D (kty cA) adr n E)) (QcRead (rt (c_mk S t) (c_ow S t) (c_re S t) x)) 0 0 (fun _ => False) := by
  refine Met.ofW (cc := cX4_realOf) (maxL := 9) (ret := (some .int)) (by decide) rfl ?_
  intro p e s m args below meth c s₁ B hml hv
  obtain ⟨rfl, hP, hN⟩ := hv
  have hx := B.exec
  have hb := B.bytes
  have hr := B.returns
  have hG : ∀ w ∈ lw_G, w.before _ s = true := fun w h => atoms_spec (ws := _ :: lw_G) B.pre w (List.mem_cons_of_mem _ h)
  have hown : s.vm.findClass RX4 = some m.cls := findClass_of_methodNamed B.named
  have hlocks := B.notSynchronized
  have hK := hN.1
  have hl := lv_entry ([.ref (adr 30), .int (nI t), .int x]) (n := 9) (Nat.le_of_ble_eq_true rfl)
  rw [lg_entry_eq]
  generalize (lg_sl ([.ref (adr 30), .int (nI t), .int x]) ++ List.replicate (9 - (lg_sl ([.ref (adr 30), .int (nI t), .int x])).length) Slot.unset).toArray = ls at hl ⊢
  have hl : lv_has ls 9 [(0, .ref (adr 30)), (1, .int (nI t)), (2, .int x)] := hl
  obtain ⟨hM0, hM1, hM2, hM3, hM4, hM5, hM6, hM7, hM8, hM9, hM10, hM11, hM12, hM13, hM14⟩ := id hR
  obtain ⟨hct, hnm, htd, hmk, hlf, hnt, hnu, hcn, hmz, hmm, hib, hmr, hrise⟩ := id hV
  have bmk := hmk t ht
  have hrs : RiseH (c_mk S t) (c_ow S t) (c_re S t) := ⟨fun j hj => hmr t j ht hj, fun j hj => hrise t j ht hj⟩
  refine lv_aload_n hx hb dX4_realOf_0 rfl (lv_at hl 0 rfl) ?_
  refine va_get (D := D) (ci := 4) (v := .ref (adr 32)) (C := RX4) (T := TX4) (N := 16) hx hb hG inG_X4 hown hK hP 30 (wl_at (by omega) hM0) rfl 2 (by decide) (hG _ g_495) (fun _ h9 => h9) rfl dX4_realOf_1 ?_
  refine lv_iload_n hx hb dX4_realOf_4 rfl (lv_at hl 1 rfl) ?_
  refine wn_iald (j := t) hx hb hK hP (by omega) hM2 (by omega) (by decide) dX4_realOf_5 ?_
  refine lv_if_ne (tgt := 11) hx hb dX4_realOf_6 (by decide) (fun c6 => ?_) (fun c6 => ?_)
  · have n6 : ¬ (c_mk S t) = 0 := fun h7 => c6 ((nI_eq (a := (c_mk S t)) (b := 0) (by omega) (by omega)).mpr h7)
    refine lv_bipush (v := 6) hx hb dX4_realOf_11 (by decide) ?_
    refine lv_iload_n hx hb dX4_realOf_13 rfl (lv_at hl 1 rfl) ?_
    refine lv_imul hx hb dX4_realOf_14 ?_
    refine lv_topi (fun y9 e9 => ?_)
    have e9 : y9 = nI (6 * t) := e9.trans (pk_mul 6 t)
    subst e9
    refine lv_istore_n (lv' := [(3, .int (nI (6 * t))), (0, .ref (adr 30)), (1, .int (nI t)), (2, .int x)]) hx hb dX4_realOf_15 rfl hl (by decide) rfl (fun ls hl => ?_)
    refine lv_iload_n hx hb dX4_realOf_16 rfl (lv_at hl 0 rfl) ?_
    refine lv_aload_n hx hb dX4_realOf_17 rfl (lv_at hl 1 rfl) ?_
    refine va_get (D := D) (ci := 4) (v := .ref (adr 32)) (C := RX4) (T := TX4) (N := 16) hx hb hG inG_X4 hown hK hP 30 (wl_at (by omega) hM0) rfl 2 (by decide) (hG _ g_495) (fun _ h9 => h9) rfl dX4_realOf_18 ?_
    refine lv_iload_n hx hb dX4_realOf_21 rfl (lv_at hl 2 rfl) ?_
    refine wn_iald (j := t) hx hb hK hP (by omega) hM2 (by omega) (by decide) dX4_realOf_22 ?_
    refine lv_iadd hx hb dX4_realOf_23 ?_
    refine lv_topi (fun y9 e9 => ?_)
    have e9 : y9 = nI ((6 * t) + (c_mk S t)) := e9.trans (nI_add (6 * t) (c_mk S t))
    subst e9
    refine lv_iconst (v := 1) hx hb dX4_realOf_24 (by decide) ?_
    refine lv_isub hx hb dX4_realOf_25 ?_
    refine lv_topi (fun y9 e9 => ?_)
    have e9 : y9 = nI (6 * t + (c_mk S t - 1)) := e9.trans (by obtain ⟨z, hz⟩ : ∃ z, c_mk S t = z + 1 := ⟨c_mk S t - 1, by omega⟩; rw [hz]; exact nI_pred _)
    subst e9
    refine lv_istore (lv' := [(4, .int (nI (6 * t + (c_mk S t - 1)))), (3, .int (nI (6 * t))), (0, .ref (adr 30)), (1, .int (nI t)), (2, .int x)]) hx hb dX4_realOf_26 hl (by decide) rfl (fun ls hl => ?_)
    refine lv_iload_n hx hb dX4_realOf_28 rfl (lv_at hl 4 rfl) ?_
    refine lv_aload_n hx hb dX4_realOf_29 rfl (lv_at hl 2 rfl) ?_
    refine va_get (D := D) (ci := 4) (v := .ref (adr 33)) (C := RX4) (T := TX4) (N := 16) hx hb hG inG_X4 hown hK hP 30 (wl_at (by omega) hM0) rfl 3 (by decide) (hG _ g_496) (fun _ h9 => h9) rfl dX4_realOf_30 ?_
    refine lv_iload_n hx hb dX4_realOf_33 rfl (lv_at hl 1 rfl) ?_
    refine wn_ialde (j := (6 * t)) (v := c_ow S t 0) hx hb hK hP (by omega) hM3 (by omega) (by decide) (fl_at (c_ow S) (j := 0) (by omega)) dX4_realOf_34 ?_
    refine lv_icmp_gt (tgt := 54) hx hb dX4_realOf_35 (by decide) (fun c35 => ?_) (fun c35 => ?_)
    · refine lv_iload_n hx hb dX4_realOf_54 rfl (lv_at hl 4 rfl) ?_
      refine lv_aload_n hx hb dX4_realOf_55 rfl (lv_at hl 2 rfl) ?_
      refine va_get (D := D) (ci := 4) (v := .ref (adr 33)) (C := RX4) (T := TX4) (N := 16) hx hb hG inG_X4 hown hK hP 30 (wl_at (by omega) hM0) rfl 3 (by decide) (hG _ g_496) (fun _ h9 => h9) rfl dX4_realOf_56 ?_
      refine lv_iload hx hb dX4_realOf_59 (lv_at hl 0 rfl) ?_
      refine wn_ialde (j := (6 * t + (c_mk S t - 1))) (v := c_ow S t (c_mk S t - 1)) hx hb hK hP (by omega) hM3 (by omega) (by decide) (fl_at (c_ow S) (by omega)) dX4_realOf_61 ?_
      refine lv_icmp_lt (tgt := 83) hx hb dX4_realOf_62 (by decide) (fun c62 => ?_) (fun c62 => ?_)
      · refine lv_iload_n hx hb dX4_realOf_83 rfl (lv_at hl 1 rfl) ?_
        refine lv_istore (lv' := [(5, .int (nI (6 * t))), (4, .int (nI (6 * t + (c_mk S t - 1)))), (3, .int (nI (6 * t))), (0, .ref (adr 30)), (1, .int (nI t)), (2, .int x)]) hx hb dX4_realOf_84 hl (by decide) rfl (fun ls hl => ?_)
        have L86 : ∀ (f : Nat) (b : Nat), c_mk S t - b < f → b < c_mk S t → (∀ j, j < b → c_ow S t j < x) → ∀ ls : Array Slot, lv_has ls 9 [(5, .int (nI (6 * t + b))), (0, .ref (adr 30)), (2, .int x)] → W p l e (headSpec (.code yX4_realOf cX4_realOf 9 (some .int) :: lw_G) ({ frames := 0, cells := 0, slots := 0, locals := 0 } : Room)).room s m [.ref (adr 30), .int (nI t), .int x].toArray below meth c s.heap [] 0 0 (MQ below (QcRead (rt (c_mk S t) (c_ow S t) (c_re S t) x)) [.ref (adr 30), .int (nI t), .int x].toArray s 0 0 (fun _ => False)) (F0 m 86 ls []) := by
          intro f
          induction f with
          | zero => intro b h0; exact absurd h0 (by omega)
          | succ f ih =>
            intro b hf hb1 hall ls hl
            refine lv_aload_n hx hb dX4_realOf_86 rfl (lv_at hl 1 rfl) ?_
            refine va_get (D := D) (ci := 4) (v := .ref (adr 33)) (C := RX4) (T := TX4) (N := 16) hx hb hG inG_X4 hown hK hP 30 (wl_at (by omega) hM0) rfl 3 (by decide) (hG _ g_496) (fun _ h9 => h9) rfl dX4_realOf_87 ?_
            refine lv_iload hx hb dX4_realOf_90 (lv_at hl 0 rfl) ?_
            refine wn_ialde (j := (6 * t + b)) (v := c_ow S t b) hx hb hK hP (by omega) hM3 (by omega) (by decide) (fl_at (c_ow S) (by omega)) dX4_realOf_92 ?_
            refine lv_iload_n hx hb dX4_realOf_93 rfl (lv_at hl 2 rfl) ?_
            refine lv_icmp_ge (tgt := 103) hx hb dX4_realOf_94 (by decide) (fun c94 => ?_) (fun c94 => ?_)
            · have hb0 : 0 < b := by rcases Nat.eq_zero_or_pos b with q | q; rw [q] at c94; exact absurd c94 (Int32.not_le.mpr c35); exact q
              refine lv_iload hx hb dX4_realOf_103 (lv_at hl 0 rfl) ?_
              refine lv_iconst (v := 1) hx hb dX4_realOf_105 (by decide) ?_
              refine lv_isub hx hb dX4_realOf_106 ?_
              refine lv_topi (fun y9 e9 => ?_)
              have e9 : y9 = nI (6 * t + (b - 1)) := e9.trans (by obtain ⟨z, rfl⟩ : ∃ z, b = z + 1 := ⟨b - 1, by omega⟩; exact nI_pred _)
              subst e9
              refine lv_istore (lv' := [(6, .int (nI (6 * t + (b - 1)))), (5, .int (nI (6 * t + b))), (0, .ref (adr 30)), (2, .int x)]) hx hb dX4_realOf_107 hl (by decide) rfl (fun ls hl => ?_)
              refine lv_aload_n hx hb dX4_realOf_109 rfl (lv_at hl 2 rfl) ?_
              refine va_get (D := D) (ci := 4) (v := .ref (adr 34)) (C := RX4) (T := TX4) (N := 16) hx hb hG inG_X4 hown hK hP 30 (wl_at (by omega) hM0) rfl 4 (by decide) (hG _ g_497) (fun _ h9 => h9) rfl dX4_realOf_110 ?_
              refine lv_iload hx hb dX4_realOf_113 (lv_at hl 1 rfl) ?_
              refine wn_ialde (j := (6 * t + b)) (v := c_re S t b) hx hb hK hP (by omega) hM4 (by omega) (by decide) (fl_at (c_re S) (by omega)) dX4_realOf_115 ?_
              refine lv_aload_n hx hb dX4_realOf_116 rfl (lv_at hl 2 rfl) ?_
              refine va_get (D := D) (ci := 4) (v := .ref (adr 34)) (C := RX4) (T := TX4) (N := 16) hx hb hG inG_X4 hown hK hP 30 (wl_at (by omega) hM0) rfl 4 (by decide) (hG _ g_497) (fun _ h9 => h9) rfl dX4_realOf_117 ?_
              refine lv_iload hx hb dX4_realOf_120 (lv_at hl 0 rfl) ?_
              refine wn_ialde (j := (6 * t + (b - 1))) (v := c_re S t (b - 1)) hx hb hK hP (by omega) hM4 (by omega) (by decide) (fl_at (c_re S) (by omega)) dX4_realOf_122 ?_
              refine lv_isub hx hb dX4_realOf_123 ?_
              refine lv_i2l (v := ((c_re S t b) - (c_re S t (b - 1))).toInt64) hx hb dX4_realOf_124 rfl ?_
              refine lv_iload_n hx hb dX4_realOf_125 rfl (lv_at hl 3 rfl) ?_
              refine lv_aload_n hx hb dX4_realOf_126 rfl (lv_at hl 2 rfl) ?_
              refine va_get (D := D) (ci := 4) (v := .ref (adr 33)) (C := RX4) (T := TX4) (N := 16) hx hb hG inG_X4 hown hK hP 30 (wl_at (by omega) hM0) rfl 3 (by decide) (hG _ g_496) (fun _ h9 => h9) rfl dX4_realOf_127 ?_
              refine lv_iload hx hb dX4_realOf_130 (lv_at hl 0 rfl) ?_
              refine wn_ialde (j := (6 * t + (b - 1))) (v := c_ow S t (b - 1)) hx hb hK hP (by omega) hM3 (by omega) (by decide) (fl_at (c_ow S) (by omega)) dX4_realOf_132 ?_
              refine lv_isub hx hb dX4_realOf_133 ?_
              refine lv_i2l (v := (x - (c_ow S t (b - 1))).toInt64) hx hb dX4_realOf_134 rfl ?_
              refine lv_lmul hx hb dX4_realOf_135 ?_
              refine lv_lstore (lv' := [(7, .long ((((c_re S t b) - (c_re S t (b - 1))).toInt64) * ((x - (c_ow S t (b - 1))).toInt64))), (6, .int (nI (6 * t + (b - 1)))), (5, .int (nI (6 * t + b))), (0, .ref (adr 30)), (2, .int x)]) hx hb dX4_realOf_136 hl (by decide) rfl (fun ls hl => ?_)
              refine lv_aload_n hx hb dX4_realOf_138 rfl (lv_at hl 3 rfl) ?_
              refine va_get (D := D) (ci := 4) (v := .ref (adr 34)) (C := RX4) (T := TX4) (N := 16) hx hb hG inG_X4 hown hK hP 30 (wl_at (by omega) hM0) rfl 4 (by decide) (hG _ g_497) (fun _ h9 => h9) rfl dX4_realOf_139 ?_
              refine lv_iload hx hb dX4_realOf_142 (lv_at hl 1 rfl) ?_
              refine wn_ialde (j := (6 * t + (b - 1))) (v := c_re S t (b - 1)) hx hb hK hP (by omega) hM4 (by omega) (by decide) (fl_at (c_re S) (by omega)) dX4_realOf_144 ?_
              refine lv_lload hx hb dX4_realOf_145 (lv_at hl 0 rfl) ?_
              refine lv_aload_n hx hb dX4_realOf_147 rfl (lv_at hl 3 rfl) ?_
              refine va_get (D := D) (ci := 4) (v := .ref (adr 33)) (C := RX4) (T := TX4) (N := 16) hx hb hG inG_X4 hown hK hP 30 (wl_at (by omega) hM0) rfl 3 (by decide) (hG _ g_496) (fun _ h9 => h9) rfl dX4_realOf_148 ?_
              refine lv_iload hx hb dX4_realOf_151 (lv_at hl 2 rfl) ?_
              refine wn_ialde (j := (6 * t + b)) (v := c_ow S t b) hx hb hK hP (by omega) hM3 (by omega) (by decide) (fl_at (c_ow S) (by omega)) dX4_realOf_153 ?_
              refine lv_aload_n hx hb dX4_realOf_154 rfl (lv_at hl 3 rfl) ?_
              refine va_get (D := D) (ci := 4) (v := .ref (adr 33)) (C := RX4) (T := TX4) (N := 16) hx hb hG inG_X4 hown hK hP 30 (wl_at (by omega) hM0) rfl 3 (by decide) (hG _ g_496) (fun _ h9 => h9) rfl dX4_realOf_155 ?_
              refine lv_iload hx hb dX4_realOf_158 (lv_at hl 1 rfl) ?_
              refine wn_ialde (j := (6 * t + (b - 1))) (v := c_ow S t (b - 1)) hx hb hK hP (by omega) hM3 (by omega) (by decide) (fl_at (c_ow S) (by omega)) dX4_realOf_160 ?_
              refine lv_isub hx hb dX4_realOf_161 ?_
              refine lv_i2l (v := ((c_ow S t b) - (c_ow S t (b - 1))).toInt64) hx hb dX4_realOf_162 rfl ?_
              refine lv_ldiv hx hb dX4_realOf_163 (i64_ne (by obtain ⟨A, A', hA, hA', eA, eA'⟩ := hrs.1 (b - 1) (by omega); obtain ⟨B, B', hB, hB', eB, eB'⟩ := hrs.1 b (by omega); have h1 := (hrs.2 (b - 1) (by omega)).1; rw [show b - 1 + 1 = b from by omega, eA, eB] at h1; rw [eA, eB, pk_sub (Nat.le_of_lt ((nI_ltI (by omega) (by omega)).mp h1))]; exact (nI_ltI (a := 0) (by omega) (by omega)).mpr (by have := (nI_ltI (by omega) (by omega)).mp h1; omega))) ?_
              refine lv_l2i (v := (((((c_re S t b) - (c_re S t (b - 1))).toInt64) * ((x - (c_ow S t (b - 1))).toInt64)) / (((c_ow S t b) - (c_ow S t (b - 1))).toInt64)).toInt32) hx hb dX4_realOf_164 rfl ?_
              refine lv_iadd hx hb dX4_realOf_165 ?_
              have h9 : ((c_re S t (b - 1)) + ((((((c_re S t b) - (c_re S t (b - 1))).toInt64) * ((x - (c_ow S t (b - 1))).toInt64)) / (((c_ow S t b) - (c_ow S t (b - 1))).toInt64)).toInt32) : Int32) = rt (c_mk S t) (c_ow S t) (c_re S t) x := rt_mid hrs hb0 (by omega) hall c94 c62
              exact W.iret (v := (c_re S t (b - 1)) + ((((((c_re S t b) - (c_re S t (b - 1))).toInt64) * ((x - (c_ow S t (b - 1))).toInt64)) / (((c_ow S t b) - (c_ow S t (b - 1))).toInt64)).toInt32)) hx hb hr (fun t ht _ => ⟨congrArg (fun z => Outcome.returned (some (Value.int z))) h9, ht⟩) (fun _ h => nomatch h) dX4_realOf_166
            · refine lv_iinc (v := nI (6 * t + (b + 1))) (lv' := [(5, .int (nI (6 * t + (b + 1)))), (0, .ref (adr 30)), (2, .int x)]) hx hb dX4_realOf_97 hl (k := 0) rfl (nI_1 _) (by decide) rfl (fun ls hl => ?_)
              refine lv_goto (tgt := 86) hx hb dX4_realOf_100 (by decide) ?_
              exact ih (b + 1) (by omega) (by rcases Nat.lt_or_ge (b + 1) (c_mk S t) with q | q; exact q; have e : b = c_mk S t - 1 := (by omega); rw [e] at c94; exact absurd (Int32.le_of_lt c62) c94) (fun j hj => by by_cases q : j = b; rw [q]; exact Int32.not_le.mp c94; exact hall j (by omega)) ls (lv_sub hl [0, 1, 2] rfl)
        exact L86 (c_mk S t + 1) 0 (by omega) (by omega) (fun j hj => absurd hj (Nat.not_lt_zero j)) ls (lv_sub hl [0, 3, 5] rfl)
      · refine lv_iload_n hx hb dX4_realOf_65 rfl (lv_at hl 4 rfl) ?_
        refine lv_aload_n hx hb dX4_realOf_66 rfl (lv_at hl 2 rfl) ?_
        refine va_get (D := D) (ci := 4) (v := .ref (adr 34)) (C := RX4) (T := TX4) (N := 16) hx hb hG inG_X4 hown hK hP 30 (wl_at (by omega) hM0) rfl 4 (by decide) (hG _ g_497) (fun _ h9 => h9) rfl dX4_realOf_67 ?_
        refine lv_iload hx hb dX4_realOf_70 (lv_at hl 0 rfl) ?_
        refine wn_ialde (j := (6 * t + (c_mk S t - 1))) (v := c_re S t (c_mk S t - 1)) hx hb hK hP (by omega) hM4 (by omega) (by decide) (fl_at (c_re S) (by omega)) dX4_realOf_72 ?_
        refine lv_iadd hx hb dX4_realOf_73 ?_
        refine lv_aload_n hx hb dX4_realOf_74 rfl (lv_at hl 2 rfl) ?_
        refine va_get (D := D) (ci := 4) (v := .ref (adr 33)) (C := RX4) (T := TX4) (N := 16) hx hb hG inG_X4 hown hK hP 30 (wl_at (by omega) hM0) rfl 3 (by decide) (hG _ g_496) (fun _ h9 => h9) rfl dX4_realOf_75 ?_
        refine lv_iload hx hb dX4_realOf_78 (lv_at hl 0 rfl) ?_
        refine wn_ialde (j := (6 * t + (c_mk S t - 1))) (v := c_ow S t (c_mk S t - 1)) hx hb hK hP (by omega) hM3 (by omega) (by decide) (fl_at (c_ow S) (by omega)) dX4_realOf_80 ?_
        refine lv_isub hx hb dX4_realOf_81 ?_
        have h9 : ((x + (c_re S t (c_mk S t - 1))) - (c_ow S t (c_mk S t - 1)) : Int32) = rt (c_mk S t) (c_ow S t) (c_re S t) x := rt_hi hrs (by omega) (Int32.not_lt.mp c62)
        exact W.iret (v := (x + (c_re S t (c_mk S t - 1))) - (c_ow S t (c_mk S t - 1))) hx hb hr (fun t ht _ => ⟨congrArg (fun z => Outcome.returned (some (Value.int z))) h9, ht⟩) (fun _ h => nomatch h) dX4_realOf_82
    · refine lv_iload_n hx hb dX4_realOf_38 rfl (lv_at hl 4 rfl) ?_
      refine lv_aload_n hx hb dX4_realOf_39 rfl (lv_at hl 2 rfl) ?_
      refine va_get (D := D) (ci := 4) (v := .ref (adr 34)) (C := RX4) (T := TX4) (N := 16) hx hb hG inG_X4 hown hK hP 30 (wl_at (by omega) hM0) rfl 4 (by decide) (hG _ g_497) (fun _ h9 => h9) rfl dX4_realOf_40 ?_
      refine lv_iload_n hx hb dX4_realOf_43 rfl (lv_at hl 1 rfl) ?_
      refine wn_ialde (j := (6 * t)) (v := c_re S t 0) hx hb hK hP (by omega) hM4 (by omega) (by decide) (fl_at (c_re S) (j := 0) (by omega)) dX4_realOf_44 ?_
      refine lv_iadd hx hb dX4_realOf_45 ?_
      refine lv_aload_n hx hb dX4_realOf_46 rfl (lv_at hl 2 rfl) ?_
      refine va_get (D := D) (ci := 4) (v := .ref (adr 33)) (C := RX4) (T := TX4) (N := 16) hx hb hG inG_X4 hown hK hP 30 (wl_at (by omega) hM0) rfl 3 (by decide) (hG _ g_496) (fun _ h9 => h9) rfl dX4_realOf_47 ?_
      refine lv_iload_n hx hb dX4_realOf_50 rfl (lv_at hl 1 rfl) ?_
      refine wn_ialde (j := (6 * t)) (v := c_ow S t 0) hx hb hK hP (by omega) hM3 (by omega) (by decide) (fl_at (c_ow S) (j := 0) (by omega)) dX4_realOf_51 ?_
      refine lv_isub hx hb dX4_realOf_52 ?_
      have h9 : ((x + (c_re S t 0)) - (c_ow S t 0) : Int32) = rt (c_mk S t) (c_ow S t) (c_re S t) x := rt_lo hrs (by omega) (Int32.not_lt.mp c35)
      exact W.iret (v := (x + (c_re S t 0)) - (c_ow S t 0)) hx hb hr (fun t ht _ => ⟨congrArg (fun z => Outcome.returned (some (Value.int z))) h9, ht⟩) (fun _ h => nomatch h) dX4_realOf_53
  · have n6 : (c_mk S t) = 0 := (nI_eq (a := (c_mk S t)) (b := 0) (by omega) (by omega)).mp c6
    refine lv_iload_n hx hb dX4_realOf_9 rfl (lv_at hl 2 rfl) ?_
    have h9 : (x : Int32) = rt (c_mk S t) (c_ow S t) (c_re S t) x := by unfold rt; rw [if_pos (by omega)]
    exact W.iret (v := x) hx hb hr (fun t ht _ => ⟨congrArg (fun z => Outcome.returned (some (Value.int z))) h9, ht⟩) (fun _ h => nomatch h) dX4_realOf_10

set_option maxHeartbeats 4000000 in
set_option maxRecDepth 100000 in
theorem cX4_find_r {l : Launch} {D : va_G} {cA : Nat → ClassId} {adr : Nat → Nat} {n : Nat} {E : Nat → va_E} {S : CS} {th : Int32} (hn : 45 ≤ n) (hV : Inv S) (hR : RepM cA adr S th E) {t b : Nat} (ht : t < 5) (hb3 : b < 2 ^ 30) (v : Int32) : Met l yX4_find (.code yX4_find cX4_find 8 (some .int) :: lw_G) ({ frames := 0, cells := 0, slots := 0, locals := 0 } : Room) (va_Pc [.ref (adr 30), .int (nI t), .int (nI (b % 2 ^ 20)), .int (nI (b / 2 ^ 20 % 8)), .int (nI (b / 2 ^ 23 % 128)), .int v] (wdU D (kty cA) adr n E)) (QcRead (nI (t_ix S t b v))) 0 0 (fun _ => False) := by
  refine Met.ofW (cc := cX4_find) (maxL := 8) (ret := (some .int)) (by decide) rfl ?_
  intro p e s m args below meth c s₁ B hml hv
  obtain ⟨rfl, hP, hN⟩ := hv
  have hx := B.exec
  have hb := B.bytes
  have hr := B.returns
  have hG : ∀ w ∈ lw_G, w.before _ s = true := fun w h => atoms_spec (ws := _ :: lw_G) B.pre w (List.mem_cons_of_mem _ h)
  have hown : s.vm.findClass RX4 = some m.cls := findClass_of_methodNamed B.named
  have hlocks := B.notSynchronized
  have hK := hN.1
  have hl := lv_entry ([.ref (adr 30), .int (nI t), .int (nI (b % 2 ^ 20)), .int (nI (b / 2 ^ 20 % 8)), .int (nI (b / 2 ^ 23 % 128)), .int v]) (n := 8) (Nat.le_of_ble_eq_true rfl)
  rw [lg_entry_eq]
  generalize (lg_sl ([.ref (adr 30), .int (nI t), .int (nI (b % 2 ^ 20)), .int (nI (b / 2 ^ 20 % 8)), .int (nI (b / 2 ^ 23 % 128)), .int v]) ++ List.replicate (8 - (lg_sl ([.ref (adr 30), .int (nI t), .int (nI (b % 2 ^ 20)), .int (nI (b / 2 ^ 20 % 8)), .int (nI (b / 2 ^ 23 % 128)), .int v])).length) Slot.unset).toArray = ls at hl ⊢
  have hl : lv_has ls 8 [(0, .ref (adr 30)), (1, .int (nI t)), (2, .int (nI (b % 2 ^ 20))), (3, .int (nI (b / 2 ^ 20 % 8))), (4, .int (nI (b / 2 ^ 23 % 128))), (5, .int v)] := hl
  obtain ⟨hM0, hM1, hM2, hM3, hM4, hM5, hM6, hM7, hM8, hM9, hM10, hM11, hM12, hM13, hM14⟩ := id hR
  obtain ⟨hct, hnm, htd, hmk, hlf, hnt, hnu, hcn, hmz, hmm, hib, hmr, hrise⟩ := id hV
  have blf := hlf t ht
  refine lv_iconst (v := 0) hx hb dX4_find_0 (by decide) ?_
  refine lv_istore (lv' := [(6, .int 0), (0, .ref (adr 30)), (1, .int (nI t)), (2, .int (nI (b % 2 ^ 20))), (3, .int (nI (b / 2 ^ 20 % 8))), (4, .int (nI (b / 2 ^ 23 % 128))), (5, .int v)]) hx hb dX4_find_1 hl (by decide) rfl (fun ls hl => ?_)
  have L3 : ∀ (f : Nat) (i : Nat), c_ct S - i < f → i ≤ c_ct S → fiB (fun j => decide (c_nm S j = t_nm S t b) && decide (c_td S j = b) && decide (c_vl S j = v)) i = none → ∀ ls : Array Slot, lv_has ls 8 [(6, .int (nI i)), (0, .ref (adr 30)), (1, .int (nI t)), (2, .int (nI (b % 2 ^ 20))), (3, .int (nI (b / 2 ^ 20 % 8))), (4, .int (nI (b / 2 ^ 23 % 128))), (5, .int v)] → W p l e (headSpec (.code yX4_find cX4_find 8 (some .int) :: lw_G) ({ frames := 0, cells := 0, slots := 0, locals := 0 } : Room)).room s m [.ref (adr 30), .int (nI t), .int (nI (b % 2 ^ 20)), .int (nI (b / 2 ^ 20 % 8)), .int (nI (b / 2 ^ 23 % 128)), .int v].toArray below meth c s.heap [] 0 0 (MQ below (QcRead (nI (t_ix S t b v))) [.ref (adr 30), .int (nI t), .int (nI (b % 2 ^ 20)), .int (nI (b / 2 ^ 20 % 8)), .int (nI (b / 2 ^ 23 % 128)), .int v].toArray s 0 0 (fun _ => False)) (F0 m 3 ls []) := by
    intro f
    induction f with
    | zero => intro i h0; exact absurd h0 (by omega)
    | succ f ih =>
      intro i hf hi hq ls hl
      refine lv_iload hx hb dX4_find_3 (lv_at hl 0 rfl) ?_
      refine lv_aload_n hx hb dX4_find_5 rfl (lv_at hl 1 rfl) ?_
      refine va_get (D := D) (ci := 4) (v := .int (nI (c_ct S))) (C := RX4) (T := TX4) (N := 16) hx hb hG inG_X4 hown hK hP 30 (wl_at (by omega) hM0) rfl 5 (by decide) (hG _ g_498) (fun _ h9 => h9) rfl dX4_find_6 ?_
      refine lv_icmp_ge (tgt := 106) hx hb dX4_find_9 (by decide) (fun c9 => ?_) (fun c9 => ?_)
      · have n9 : (c_ct S) ≤ i := (nI_leI (a := (c_ct S)) (b := i) (by omega) (by omega)).mp c9
        refine lv_aload_n hx hb dX4_find_106 rfl (lv_at hl 1 rfl) ?_
        refine va_get (D := D) (ci := 4) (v := .int (nI (c_ct S))) (C := RX4) (T := TX4) (N := 16) hx hb hG inG_X4 hown hK hP 30 (wl_at (by omega) hM0) rfl 5 (by decide) (hG _ g_498) (fun _ h9 => h9) rfl dX4_find_107 ?_
        have h9 : (nI (c_ct S) : Int32) = nI (t_ix S t b v) := by unfold t_ix; rw [show t_fd S t b v = none from by unfold t_fd; rw [show c_ct S = i from by omega]; exact hq]; rfl
        exact W.iret (v := nI (c_ct S)) hx hb hr (fun t ht _ => ⟨congrArg (fun z => Outcome.returned (some (Value.int z))) h9, ht⟩) (fun _ h => nomatch h) dX4_find_110
      · have n9 : ¬ (c_ct S) ≤ i := fun h7 => c9 ((nI_leI (a := (c_ct S)) (b := i) (by omega) (by omega)).mpr h7)
        have b1 := hnm i
        have b2 := htd i
        have b3 := hnt i (by omega)
        refine lv_aload_n hx hb dX4_find_12 rfl (lv_at hl 1 rfl) ?_
        refine va_get (D := D) (ci := 4) (v := .ref (adr 35)) (C := RX4) (T := TX4) (N := 16) hx hb hG inG_X4 hown hK hP 30 (wl_at (by omega) hM0) rfl 6 (by decide) (hG _ g_499) (fun _ h9 => h9) rfl dX4_find_13 ?_
        refine lv_iload hx hb dX4_find_16 (lv_at hl 0 rfl) ?_
        refine wn_iald (j := i) hx hb hK hP (by omega) hM5 (by omega) (by decide) dX4_find_18 ?_
        refine lv_iload_n hx hb dX4_find_19 rfl (lv_at hl 2 rfl) ?_
        refine lv_icmp_ne (tgt := 55) hx hb dX4_find_20 (by decide) (fun c20 => ?_) (fun c20 => ?_)
        · have n20 : ¬ (c_nm S i / 512) = t := fun h7 => c20 ((nI_eq (a := (c_nm S i / 512)) (b := t) (by omega) (by omega)).mpr h7)
          refine lv_iconst (v := 0) hx hb dX4_find_55 (by decide) ?_
          refine lv_istore (lv' := [(7, .int 0), (6, .int (nI i)), (0, .ref (adr 30)), (1, .int (nI t)), (2, .int (nI (b % 2 ^ 20))), (3, .int (nI (b / 2 ^ 20 % 8))), (4, .int (nI (b / 2 ^ 23 % 128))), (5, .int v)]) hx hb dX4_find_56 hl (by decide) rfl (fun ls hl => ?_)
          refine lv_iload hx hb dX4_find_58 (lv_at hl 0 rfl) ?_
          refine lv_if_eq (tgt := 100) hx hb dX4_find_60 (by decide) (fun c60 => ?_) (fun c60 => absurd (rfl) c60)
          refine lv_iinc (v := nI (i + 1)) (lv' := [(6, .int (nI (i + 1))), (7, .int 0), (0, .ref (adr 30)), (1, .int (nI t)), (2, .int (nI (b % 2 ^ 20))), (3, .int (nI (b / 2 ^ 20 % 8))), (4, .int (nI (b / 2 ^ 23 % 128))), (5, .int v)]) hx hb dX4_find_100 hl (k := 1) rfl (nI_1 _) (by decide) rfl (fun ls hl => ?_)
          refine lv_goto (tgt := 3) hx hb dX4_find_103 (by decide) ?_
          exact ih (i + 1) (by omega) (by omega) (fiB_miss hq (by first | (rw [decide_eq_false (show ¬ c_nm S i = t_nm S t b from fun h => by unfold t_nm at h; omega)]; rfl) | (rw [decide_eq_false (show ¬ c_td S i = b from fun h => by omega), Bool.and_false]; rfl) | (rw [decide_eq_false c83, Bool.and_false]))) ls (lv_sub hl [0, 2, 3, 4, 5, 6, 7] rfl)
        · have n20 : (c_nm S i / 512) = t := (nI_eq (a := (c_nm S i / 512)) (b := t) (by omega) (by omega)).mp c20
          refine lv_aload_n hx hb dX4_find_23 rfl (lv_at hl 1 rfl) ?_
          refine va_get (D := D) (ci := 4) (v := .ref (adr 36)) (C := RX4) (T := TX4) (N := 16) hx hb hG inG_X4 hown hK hP 30 (wl_at (by omega) hM0) rfl 7 (by decide) (hG _ g_500) (fun _ h9 => h9) rfl dX4_find_24 ?_
          refine lv_iload hx hb dX4_find_27 (lv_at hl 0 rfl) ?_
          refine wn_iald (j := i) hx hb hK hP (by omega) hM6 (by omega) (by decide) dX4_find_29 ?_
          refine lv_aload_n hx hb dX4_find_30 rfl (lv_at hl 1 rfl) ?_
          refine va_get (D := D) (ci := 4) (v := .ref (adr 31)) (C := RX4) (T := TX4) (N := 16) hx hb hG inG_X4 hown hK hP 30 (wl_at (by omega) hM0) rfl 1 (by decide) (hG _ g_494) (fun _ h9 => h9) rfl dX4_find_31 ?_
          refine lv_iload_n hx hb dX4_find_34 rfl (lv_at hl 2 rfl) ?_
          refine wn_iald (j := t) hx hb hK hP (by omega) hM1 (by omega) (by decide) dX4_find_35 ?_
          refine lv_icmp_ne (tgt := 55) hx hb dX4_find_36 (by decide) (fun c36 => ?_) (fun c36 => ?_)
          · have n36 : ¬ (c_nm S i / 128 % 4) = (c_lf S t) := fun h7 => c36 ((nI_eq (a := (c_nm S i / 128 % 4)) (b := (c_lf S t)) (by omega) (by omega)).mpr h7)
            refine lv_iconst (v := 0) hx hb dX4_find_55 (by decide) ?_
            refine lv_istore (lv' := [(7, .int 0), (6, .int (nI i)), (0, .ref (adr 30)), (1, .int (nI t)), (2, .int (nI (b % 2 ^ 20))), (3, .int (nI (b / 2 ^ 20 % 8))), (4, .int (nI (b / 2 ^ 23 % 128))), (5, .int v)]) hx hb dX4_find_56 hl (by decide) rfl (fun ls hl => ?_)
            refine lv_iload hx hb dX4_find_58 (lv_at hl 0 rfl) ?_
            refine lv_if_eq (tgt := 100) hx hb dX4_find_60 (by decide) (fun c60 => ?_) (fun c60 => absurd (rfl) c60)
            refine lv_iinc (v := nI (i + 1)) (lv' := [(6, .int (nI (i + 1))), (7, .int 0), (0, .ref (adr 30)), (1, .int (nI t)), (2, .int (nI (b % 2 ^ 20))), (3, .int (nI (b / 2 ^ 20 % 8))), (4, .int (nI (b / 2 ^ 23 % 128))), (5, .int v)]) hx hb dX4_find_100 hl (k := 1) rfl (nI_1 _) (by decide) rfl (fun ls hl => ?_)
            refine lv_goto (tgt := 3) hx hb dX4_find_103 (by decide) ?_
            exact ih (i + 1) (by omega) (by omega) (fiB_miss hq (by first | (rw [decide_eq_false (show ¬ c_nm S i = t_nm S t b from fun h => by unfold t_nm at h; omega)]; rfl) | (rw [decide_eq_false (show ¬ c_td S i = b from fun h => by omega), Bool.and_false]; rfl) | (rw [decide_eq_false c83, Bool.and_false]))) ls (lv_sub hl [0, 2, 3, 4, 5, 6, 7] rfl)
          · have n36 : (c_nm S i / 128 % 4) = (c_lf S t) := (nI_eq (a := (c_nm S i / 128 % 4)) (b := (c_lf S t)) (by omega) (by omega)).mp c36
            refine lv_aload_n hx hb dX4_find_39 rfl (lv_at hl 1 rfl) ?_
            refine va_get (D := D) (ci := 4) (v := .ref (adr 37)) (C := RX4) (T := TX4) (N := 16) hx hb hG inG_X4 hown hK hP 30 (wl_at (by omega) hM0) rfl 8 (by decide) (hG _ g_501) (fun _ h9 => h9) rfl dX4_find_40 ?_
            refine lv_iload hx hb dX4_find_43 (lv_at hl 0 rfl) ?_
            refine wn_iald (j := i) hx hb hK hP (by omega) hM7 (by omega) (by decide) dX4_find_45 ?_
            refine lv_iload hx hb dX4_find_46 (lv_at hl 5 rfl) ?_
            refine lv_icmp_ne (tgt := 55) hx hb dX4_find_48 (by decide) (fun c48 => ?_) (fun c48 => ?_)
            · have n48 : ¬ (c_nm S i % 128) = (b / 2 ^ 23 % 128) := fun h7 => c48 ((nI_eq (a := (c_nm S i % 128)) (b := (b / 2 ^ 23 % 128)) (by omega) (by omega)).mpr h7)
              refine lv_iconst (v := 0) hx hb dX4_find_55 (by decide) ?_
              refine lv_istore (lv' := [(7, .int 0), (6, .int (nI i)), (0, .ref (adr 30)), (1, .int (nI t)), (2, .int (nI (b % 2 ^ 20))), (3, .int (nI (b / 2 ^ 20 % 8))), (4, .int (nI (b / 2 ^ 23 % 128))), (5, .int v)]) hx hb dX4_find_56 hl (by decide) rfl (fun ls hl => ?_)
              refine lv_iload hx hb dX4_find_58 (lv_at hl 0 rfl) ?_
              refine lv_if_eq (tgt := 100) hx hb dX4_find_60 (by decide) (fun c60 => ?_) (fun c60 => absurd (rfl) c60)
              refine lv_iinc (v := nI (i + 1)) (lv' := [(6, .int (nI (i + 1))), (7, .int 0), (0, .ref (adr 30)), (1, .int (nI t)), (2, .int (nI (b % 2 ^ 20))), (3, .int (nI (b / 2 ^ 20 % 8))), (4, .int (nI (b / 2 ^ 23 % 128))), (5, .int v)]) hx hb dX4_find_100 hl (k := 1) rfl (nI_1 _) (by decide) rfl (fun ls hl => ?_)
              refine lv_goto (tgt := 3) hx hb dX4_find_103 (by decide) ?_
              exact ih (i + 1) (by omega) (by omega) (fiB_miss hq (by first | (rw [decide_eq_false (show ¬ c_nm S i = t_nm S t b from fun h => by unfold t_nm at h; omega)]; rfl) | (rw [decide_eq_false (show ¬ c_td S i = b from fun h => by omega), Bool.and_false]; rfl) | (rw [decide_eq_false c83, Bool.and_false]))) ls (lv_sub hl [0, 2, 3, 4, 5, 6, 7] rfl)
            · have n48 : (c_nm S i % 128) = (b / 2 ^ 23 % 128) := (nI_eq (a := (c_nm S i % 128)) (b := (b / 2 ^ 23 % 128)) (by omega) (by omega)).mp c48
              refine lv_iconst (v := 1) hx hb dX4_find_51 (by decide) ?_
              refine lv_goto (tgt := 56) hx hb dX4_find_52 (by decide) ?_
              refine lv_istore (lv' := [(7, .int 1), (6, .int (nI i)), (0, .ref (adr 30)), (1, .int (nI t)), (2, .int (nI (b % 2 ^ 20))), (3, .int (nI (b / 2 ^ 20 % 8))), (4, .int (nI (b / 2 ^ 23 % 128))), (5, .int v)]) hx hb dX4_find_56 hl (by decide) rfl (fun ls hl => ?_)
              refine lv_iload hx hb dX4_find_58 (lv_at hl 0 rfl) ?_
              refine lv_if_eq (tgt := 100) hx hb dX4_find_60 (by decide) (fun c60 => absurd c60 (by decide)) (fun c60 => ?_)
              refine lv_aload_n hx hb dX4_find_63 rfl (lv_at hl 2 rfl) ?_
              refine va_get (D := D) (ci := 4) (v := .ref (adr 38)) (C := RX4) (T := TX4) (N := 16) hx hb hG inG_X4 hown hK hP 30 (wl_at (by omega) hM0) rfl 9 (by decide) (hG _ g_502) (fun _ h9 => h9) rfl dX4_find_64 ?_
              refine lv_iload hx hb dX4_find_67 (lv_at hl 1 rfl) ?_
              refine wn_iald (j := i) hx hb hK hP (by omega) hM8 (by omega) (by decide) dX4_find_69 ?_
              refine lv_iload_n hx hb dX4_find_70 rfl (lv_at hl 5 rfl) ?_
              refine lv_icmp_ne (tgt := 100) hx hb dX4_find_71 (by decide) (fun c71 => ?_) (fun c71 => ?_)
              · have n71 : ¬ (c_td S i / 2 ^ 20 % 8) = (b / 2 ^ 20 % 8) := fun h7 => c71 ((nI_eq (a := (c_td S i / 2 ^ 20 % 8)) (b := (b / 2 ^ 20 % 8)) (by omega) (by omega)).mpr h7)
                refine lv_iinc (v := nI (i + 1)) (lv' := [(6, .int (nI (i + 1))), (7, .int 1), (0, .ref (adr 30)), (1, .int (nI t)), (2, .int (nI (b % 2 ^ 20))), (3, .int (nI (b / 2 ^ 20 % 8))), (4, .int (nI (b / 2 ^ 23 % 128))), (5, .int v)]) hx hb dX4_find_100 hl (k := 1) rfl (nI_1 _) (by decide) rfl (fun ls hl => ?_)
                refine lv_goto (tgt := 3) hx hb dX4_find_103 (by decide) ?_
                exact ih (i + 1) (by omega) (by omega) (fiB_miss hq (by first | (rw [decide_eq_false (show ¬ c_nm S i = t_nm S t b from fun h => by unfold t_nm at h; omega)]; rfl) | (rw [decide_eq_false (show ¬ c_td S i = b from fun h => by omega), Bool.and_false]; rfl) | (rw [decide_eq_false c83, Bool.and_false]))) ls (lv_sub hl [0, 2, 3, 4, 5, 6, 7] rfl)
              · have n71 : (c_td S i / 2 ^ 20 % 8) = (b / 2 ^ 20 % 8) := (nI_eq (a := (c_td S i / 2 ^ 20 % 8)) (b := (b / 2 ^ 20 % 8)) (by omega) (by omega)).mp c71
                refine lv_aload_n hx hb dX4_find_74 rfl (lv_at hl 2 rfl) ?_
                refine va_get (D := D) (ci := 4) (v := .ref (adr 39)) (C := RX4) (T := TX4) (N := 16) hx hb hG inG_X4 hown hK hP 30 (wl_at (by omega) hM0) rfl 10 (by decide) (hG _ g_503) (fun _ h9 => h9) rfl dX4_find_75 ?_
                refine lv_iload hx hb dX4_find_78 (lv_at hl 1 rfl) ?_
                refine wn_iald (j := i) hx hb hK hP (by omega) hM9 (by omega) (by decide) dX4_find_80 ?_
                refine lv_iload hx hb dX4_find_81 (lv_at hl 7 rfl) ?_
                refine lv_icmp_ne (tgt := 100) hx hb dX4_find_83 (by decide) (fun c83 => ?_) (fun c83 => ?_)
                · refine lv_iinc (v := nI (i + 1)) (lv' := [(6, .int (nI (i + 1))), (7, .int 1), (0, .ref (adr 30)), (1, .int (nI t)), (2, .int (nI (b % 2 ^ 20))), (3, .int (nI (b / 2 ^ 20 % 8))), (4, .int (nI (b / 2 ^ 23 % 128))), (5, .int v)]) hx hb dX4_find_100 hl (k := 1) rfl (nI_1 _) (by decide) rfl (fun ls hl => ?_)
                  refine lv_goto (tgt := 3) hx hb dX4_find_103 (by decide) ?_
                  exact ih (i + 1) (by omega) (by omega) (fiB_miss hq (by first | (rw [decide_eq_false (show ¬ c_nm S i = t_nm S t b from fun h => by unfold t_nm at h; omega)]; rfl) | (rw [decide_eq_false (show ¬ c_td S i = b from fun h => by omega), Bool.and_false]; rfl) | (rw [decide_eq_false c83, Bool.and_false]))) ls (lv_sub hl [0, 2, 3, 4, 5, 6, 7] rfl)
                · refine lv_aload_n hx hb dX4_find_86 rfl (lv_at hl 2 rfl) ?_
                  refine va_get (D := D) (ci := 4) (v := .ref (adr 40)) (C := RX4) (T := TX4) (N := 16) hx hb hG inG_X4 hown hK hP 30 (wl_at (by omega) hM0) rfl 11 (by decide) (hG _ g_504) (fun _ h9 => h9) rfl dX4_find_87 ?_
                  refine lv_iload hx hb dX4_find_90 (lv_at hl 1 rfl) ?_
                  refine wn_iald (j := i) hx hb hK hP (by omega) hM10 (by omega) (by decide) dX4_find_92 ?_
                  refine lv_iload_n hx hb dX4_find_93 rfl (lv_at hl 4 rfl) ?_
                  refine lv_icmp_ne (tgt := 100) hx hb dX4_find_94 (by decide) (fun c94 => ?_) (fun c94 => ?_)
                  · have n94 : ¬ (c_td S i % 2 ^ 20) = (b % 2 ^ 20) := fun h7 => c94 ((nI_eq (a := (c_td S i % 2 ^ 20)) (b := (b % 2 ^ 20)) (by omega) (by omega)).mpr h7)
                    refine lv_iinc (v := nI (i + 1)) (lv' := [(6, .int (nI (i + 1))), (7, .int 1), (0, .ref (adr 30)), (1, .int (nI t)), (2, .int (nI (b % 2 ^ 20))), (3, .int (nI (b / 2 ^ 20 % 8))), (4, .int (nI (b / 2 ^ 23 % 128))), (5, .int v)]) hx hb dX4_find_100 hl (k := 1) rfl (nI_1 _) (by decide) rfl (fun ls hl => ?_)
                    refine lv_goto (tgt := 3) hx hb dX4_find_103 (by decide) ?_
                    exact ih (i + 1) (by omega) (by omega) (fiB_miss hq (by first | (rw [decide_eq_false (show ¬ c_nm S i = t_nm S t b from fun h => by unfold t_nm at h; omega)]; rfl) | (rw [decide_eq_false (show ¬ c_td S i = b from fun h => by omega), Bool.and_false]; rfl) | (rw [decide_eq_false c83, Bool.and_false]))) ls (lv_sub hl [0, 2, 3, 4, 5, 6, 7] rfl)
                  · have n94 : (c_td S i % 2 ^ 20) = (b % 2 ^ 20) := (nI_eq (a := (c_td S i % 2 ^ 20)) (b := (b % 2 ^ 20)) (by omega) (by omega)).mp c94
                    refine lv_iload hx hb dX4_find_97 (lv_at hl 1 rfl) ?_
                    have h9 : (nI i : Int32) = nI (t_ix S t b v) := by unfold t_ix; rw [show t_fd S t b v = some i from fiB_hit hq (by rw [decide_eq_true (show c_nm S i = t_nm S t b by unfold t_nm; omega), decide_eq_true (show c_td S i = b by omega), decide_eq_true c83]; rfl) (by omega)]; rfl
                    exact W.iret (v := nI i) hx hb hr (fun t ht _ => ⟨congrArg (fun z => Outcome.returned (some (Value.int z))) h9, ht⟩) (fun _ h => nomatch h) dX4_find_99
  exact L3 (c_ct S + 1) 0 (by omega) (by omega) rfl ls (lv_sub hl [0, 1, 2, 3, 4, 5, 6] rfl)

set_option maxHeartbeats 4000000 in
set_option maxRecDepth 100000 in
theorem cX4_counts_r {l : Launch} {D : va_G} {cA : Nat → ClassId} {adr : Nat → Nat} {n : Nat} {E : Nat → va_E} {S : CS} {th : Int32} (hn : 45 ≤ n) (hV : Inv S) (hR : RepM cA adr S th E) {d i : Nat} (hd : d < 3) (hi2 : i < 120) (mm : Int32) : Met l yX4_counts (.code yX4_counts cX4_counts 7 (some .boolean) :: lw_G) ({ frames := 2, cells := 0, slots := 0, locals := 46 } : Room) (va_Pc [.ref (adr 30), .int (nI d), .int (nI i), .int mm] (wdU D (kty cA) adr n E)) (QcRead (bI (c_had S d i mm && c_cnt S d i mm))) 0 0 (fun _ => False) := by
  refine Met.ofW (cc := cX4_counts) (maxL := 7) (ret := (some .boolean)) (by decide) rfl ?_
  intro p e s m args below meth c s₁ B hml hv
  obtain ⟨rfl, hP, hN⟩ := hv
  have hx := B.exec
  have hb := B.bytes
  have hr := B.returns
  have hG : ∀ w ∈ lw_G, w.before _ s = true := fun w h => atoms_spec (ws := _ :: lw_G) B.pre w (List.mem_cons_of_mem _ h)
  have hown : s.vm.findClass RX4 = some m.cls := findClass_of_methodNamed B.named
  have hlocks := B.notSynchronized
  have hK := hN.1
  have hl := lv_entry ([.ref (adr 30), .int (nI d), .int (nI i), .int mm]) (n := 7) (Nat.le_of_ble_eq_true rfl)
  rw [lg_entry_eq]
  generalize (lg_sl ([.ref (adr 30), .int (nI d), .int (nI i), .int mm]) ++ List.replicate (7 - (lg_sl ([.ref (adr 30), .int (nI d), .int (nI i), .int mm])).length) Slot.unset).toArray = ls at hl ⊢
  have hl : lv_has ls 7 [(0, .ref (adr 30)), (1, .int (nI d)), (2, .int (nI i)), (3, .int mm)] := hl
  obtain ⟨hM0, hM1, hM2, hM3, hM4, hM5, hM6, hM7, hM8, hM9, hM10, hM11, hM12, hM13, hM14⟩ := id hR
  obtain ⟨hct, hnm, htd, hmk, hlf, hnt, hnu, hcn, hmz, hmm, hib, hmr, hrise⟩ := id hV
  refine lv_aload_n hx hb dX4_counts_0 rfl (lv_at hl 0 rfl) ?_
  refine lv_iload_n hx hb dX4_counts_1 rfl (lv_at hl 1 rfl) ?_
  refine lv_iload_n hx hb dX4_counts_2 rfl (lv_at hl 2 rfl) ?_
  refine lv_iload_n hx hb dX4_counts_3 rfl (lv_at hl 3 rfl) ?_
  refine wn_rV (rest := []) hx hb hml hown hG hN hP (cX4_sees_r hn hV hR (d := d) (j := i) hd (by omega) mm) (cwV 3 hG (gV g_611 g_613 gp_X4_sees g_5 g_614) rfl rfl rfl (by decide +kernel) ⟨Nat.le_of_ble_eq_true rfl, Nat.le_of_ble_eq_true rfl⟩) (by omega) hM0 rfl rfl hl.1 rfl (Nat.le_of_ble_eq_true rfl) dX4_counts_4 ⟨Nat.le_of_ble_eq_true rfl, Nat.le_of_ble_eq_true rfl⟩ ?_
  refine lv_if_ne (tgt := 12) hx hb dX4_counts_7 (by decide) (fun c7 => ?_) (fun c7 => ?_)
  · have n7 : (c_had S d i mm) = true := bI_1.mp c7
    refine lv_aload_n hx hb dX4_counts_12 rfl (lv_at hl 0 rfl) ?_
    refine va_get (D := D) (ci := 4) (v := .ref (adr 41)) (C := RX4) (T := TX4) (N := 16) hx hb hG inG_X4 hown hK hP 30 (wl_at (by omega) hM0) rfl 12 (by decide) (hG _ g_505) (fun _ h9 => h9) rfl dX4_counts_13 ?_
    refine lv_iload_n hx hb dX4_counts_16 rfl (lv_at hl 2 rfl) ?_
    refine wn_zald (j := i) hx hb hK hP (by omega) hM11 (by omega) (by decide) dX4_counts_17 ?_
    refine lv_istore (lv' := [(4, .int (bI (c_sd S i))), (0, .ref (adr 30)), (1, .int (nI d)), (2, .int (nI i)), (3, .int mm)]) hx hb dX4_counts_18 hl (by decide) rfl (fun ls hl => ?_)
    refine lv_iconst (v := 0) hx hb dX4_counts_20 (by decide) ?_
    refine lv_istore (lv' := [(5, .int 0), (4, .int (bI (c_sd S i))), (0, .ref (adr 30)), (1, .int (nI d)), (2, .int (nI i)), (3, .int mm)]) hx hb dX4_counts_21 hl (by decide) rfl (fun ls hl => ?_)
    refine lv_iconst (v := 0) hx hb dX4_counts_23 (by decide) ?_
    refine lv_istore (lv' := [(6, .int 0), (5, .int 0), (4, .int (bI (c_sd S i))), (0, .ref (adr 30)), (1, .int (nI d)), (2, .int (nI i)), (3, .int mm)]) hx hb dX4_counts_24 hl (by decide) rfl (fun ls hl => ?_)
    have L26 : ∀ (f : Nat) (r : Nat) (x1 : Bool) (x2 : Bool), c_ct S - r < f → r ≤ c_ct S → (c_sd S i || anB (fun r => c_rv S i r && c_sd S r) r) = x1 → anB (fun r => c_rv S i r && c_had S d r mm) r = x2 → ∀ ls : Array Slot, lv_has ls 7 [(6, .int (nI r)), (4, .int (bI x1)), (5, .int (bI x2)), (0, .ref (adr 30)), (1, .int (nI d)), (2, .int (nI i)), (3, .int mm)] → W p l e (headSpec (.code yX4_counts cX4_counts 7 (some .boolean) :: lw_G) ({ frames := 2, cells := 0, slots := 0, locals := 46 } : Room)).room s m [.ref (adr 30), .int (nI d), .int (nI i), .int mm].toArray below meth c s.heap [] 0 0 (MQ below (QcRead (bI (c_had S d i mm && c_cnt S d i mm))) [.ref (adr 30), .int (nI d), .int (nI i), .int mm].toArray s 0 0 (fun _ => False)) (F0 m 26 ls []) := by
      intro f
      induction f with
      | zero => intro r x1 x2 h0; exact absurd h0 (by omega)
      | succ f ih =>
        intro r x1 x2 hf hr2 h1 h2 ls hl
        refine lv_iload hx hb dX4_counts_26 (lv_at hl 0 rfl) ?_
        refine lv_aload_n hx hb dX4_counts_28 rfl (lv_at hl 3 rfl) ?_
        refine va_get (D := D) (ci := 4) (v := .int (nI (c_ct S))) (C := RX4) (T := TX4) (N := 16) hx hb hG inG_X4 hown hK hP 30 (wl_at (by omega) hM0) rfl 5 (by decide) (hG _ g_498) (fun _ h9 => h9) rfl dX4_counts_29 ?_
        refine lv_icmp_ge (tgt := 106) hx hb dX4_counts_32 (by decide) (fun c32 => ?_) (fun c32 => ?_)
        · have n32 : (c_ct S) ≤ r := (nI_leI (a := (c_ct S)) (b := r) (by omega) (by omega)).mp c32
          refine lv_iload hx hb dX4_counts_106 (lv_at hl 1 rfl) ?_
          refine lv_if_eq (tgt := 120) hx hb dX4_counts_108 (by decide) (fun c108 => ?_) (fun c108 => ?_)
          · have n108 : x1 = false := bI_0.mp c108
            refine lv_iload hx hb dX4_counts_120 (lv_at hl 2 rfl) ?_
            refine lv_if_ne (tgt := 129) hx hb dX4_counts_122 (by decide) (fun c122 => ?_) (fun c122 => ?_)
            · have n122 : x2 = true := bI_1.mp c122
              refine lv_iconst (v := 0) hx hb dX4_counts_129 (by decide) ?_
              have h9 : (0 : Int32) = bI (c_had S d i mm && c_cnt S d i mm) := by rw [n7, Bool.true_and]; unfold c_cnt; rw [anB_or (A := fun r => c_rv S i r) (B := fun r => c_sd S r) (C := fun r => c_had S d r mm), show c_ct S = r from by omega, h2]; rw [n108] at h1; simp only [Bool.or_eq_false_iff] at h1; rw [h1.1, h1.2, n122]; rfl
              exact W.zret (v := 0) hx hb hr (by first | rfl | exact bI_nar _) (fun t ht _ => ⟨congrArg (fun z => Outcome.returned (some (Value.int z))) h9, ht⟩) (fun _ h => nomatch h) dX4_counts_130
            · have n122 : x2 = false := bI_0.mp c122
              refine lv_iconst (v := 1) hx hb dX4_counts_125 (by decide) ?_
              refine lv_goto (tgt := 130) hx hb dX4_counts_126 (by decide) ?_
              have h9 : (1 : Int32) = bI (c_had S d i mm && c_cnt S d i mm) := by rw [n7, Bool.true_and]; unfold c_cnt; rw [anB_or (A := fun r => c_rv S i r) (B := fun r => c_sd S r) (C := fun r => c_had S d r mm), show c_ct S = r from by omega, h2]; rw [n108] at h1; simp only [Bool.or_eq_false_iff] at h1; rw [h1.1, h1.2, n122]; rfl
              exact W.zret (v := 1) hx hb hr (by first | rfl | exact bI_nar _) (fun t ht _ => ⟨congrArg (fun z => Outcome.returned (some (Value.int z))) h9, ht⟩) (fun _ h => nomatch h) dX4_counts_130
          · have n108 : x1 = true := bI_1.mp c108
            refine lv_aload_n hx hb dX4_counts_111 rfl (lv_at hl 3 rfl) ?_
            refine va_get (D := D) (ci := 4) (v := .ref (adr 41)) (C := RX4) (T := TX4) (N := 16) hx hb hG inG_X4 hown hK hP 30 (wl_at (by omega) hM0) rfl 12 (by decide) (hG _ g_505) (fun _ h9 => h9) rfl dX4_counts_112 ?_
            refine lv_iload_n hx hb dX4_counts_115 rfl (lv_at hl 5 rfl) ?_
            refine wn_zald (j := i) hx hb hK hP (by omega) hM11 (by omega) (by decide) dX4_counts_116 ?_
            refine lv_goto (tgt := 130) hx hb dX4_counts_117 (by decide) ?_
            have h9 : (bI (c_sd S i) : Int32) = bI (c_had S d i mm && c_cnt S d i mm) := by rw [n7, Bool.true_and]; unfold c_cnt; rw [anB_or (A := fun r => c_rv S i r) (B := fun r => c_sd S r) (C := fun r => c_had S d r mm), show c_ct S = r from by omega, h2]; rw [n108] at h1; cases hs : c_sd S i; rw [hs] at h1; rw [show anB (fun r => c_rv S i r && c_sd S r) r = true from h1]; rfl; rfl
            exact W.zret (v := bI (c_sd S i)) hx hb hr (by first | rfl | exact bI_nar _) (fun t ht _ => ⟨congrArg (fun z => Outcome.returned (some (Value.int z))) h9, ht⟩) (fun _ h => nomatch h) dX4_counts_130
        · have n32 : ¬ (c_ct S) ≤ r := fun h7 => c32 ((nI_leI (a := (c_ct S)) (b := r) (by omega) (by omega)).mpr h7)
          refine lv_iload hx hb dX4_counts_35 (lv_at hl 1 rfl) ?_
          refine lv_if_ne (tgt := 60) hx hb dX4_counts_37 (by decide) (fun c37 => ?_) (fun c37 => ?_)
          · have n37 : x1 = true := bI_1.mp c37
            refine lv_iconst (v := 1) hx hb dX4_counts_60 (by decide) ?_
            refine lv_goto (tgt := 65) hx hb dX4_counts_61 (by decide) ?_
            refine lv_istore (lv' := [(4, .int 1), (6, .int (nI r)), (5, .int (bI x2)), (0, .ref (adr 30)), (1, .int (nI d)), (2, .int (nI i)), (3, .int mm)]) hx hb dX4_counts_65 hl (by decide) rfl (fun ls hl => ?_)
            refine lv_iload hx hb dX4_counts_67 (lv_at hl 2 rfl) ?_
            refine lv_if_ne (tgt := 93) hx hb dX4_counts_69 (by decide) (fun c69 => ?_) (fun c69 => ?_)
            · have n69 : x2 = true := bI_1.mp c69
              refine lv_iconst (v := 1) hx hb dX4_counts_93 (by decide) ?_
              refine lv_goto (tgt := 98) hx hb dX4_counts_94 (by decide) ?_
              refine lv_istore (lv' := [(5, .int 1), (4, .int 1), (6, .int (nI r)), (0, .ref (adr 30)), (1, .int (nI d)), (2, .int (nI i)), (3, .int mm)]) hx hb dX4_counts_98 hl (by decide) rfl (fun ls hl => ?_)
              refine lv_iinc (v := nI (r + 1)) (lv' := [(6, .int (nI (r + 1))), (5, .int 1), (4, .int 1), (0, .ref (adr 30)), (1, .int (nI d)), (2, .int (nI i)), (3, .int mm)]) hx hb dX4_counts_100 hl (k := 2) rfl (nI_1 _) (by decide) rfl (fun ls hl => ?_)
              refine lv_goto (tgt := 26) hx hb dX4_counts_103 (by decide) ?_
              exact ih (r + 1) true true (by omega) (by omega) (by show (c_sd S i || (anB (fun r => c_rv S i r && c_sd S r) r || (c_rv S i r && c_sd S r))) = _; rw [← Bool.or_assoc, h1]; first | (rw [n37]; rfl) | (rw [n47, n57]; simp; done)) (by show (anB (fun r => c_rv S i r && c_had S d r mm) r || (c_rv S i r && c_had S d r mm)) = _; rw [h2]; first | (rw [n69]; rfl) | (rw [n79, n90]; simp; done)) ls (lv_sub hl [0, 2, 1, 3, 4, 5, 6] rfl)
            · have n69 : x2 = false := bI_0.mp c69
              refine lv_aload_n hx hb dX4_counts_72 rfl (lv_at hl 3 rfl) ?_
              refine lv_iload_n hx hb dX4_counts_73 rfl (lv_at hl 5 rfl) ?_
              refine lv_iload hx hb dX4_counts_74 (lv_at hl 1 rfl) ?_
              refine wn_rV (rest := []) hx hb hml hown hG hN hP (cX4_areRivals_r hn hV hR (i := i) (j := r) (by omega) (by omega)) (cwV 2 hG (gV g_587 g_589 gp_X4_areRivals g_5 g_590) rfl rfl rfl (by decide +kernel) ⟨Nat.le_of_ble_eq_true rfl, Nat.le_of_ble_eq_true rfl⟩) (by omega) hM0 rfl rfl hl.1 rfl (Nat.le_of_ble_eq_true rfl) dX4_counts_76 ⟨Nat.le_of_ble_eq_true rfl, Nat.le_of_ble_eq_true rfl⟩ ?_
              refine lv_if_eq (tgt := 97) hx hb dX4_counts_79 (by decide) (fun c79 => ?_) (fun c79 => ?_)
              · have n79 : (c_rv S i r) = false := bI_0.mp c79
                refine lv_iconst (v := 0) hx hb dX4_counts_97 (by decide) ?_
                refine lv_istore (lv' := [(5, .int 0), (4, .int 1), (6, .int (nI r)), (0, .ref (adr 30)), (1, .int (nI d)), (2, .int (nI i)), (3, .int mm)]) hx hb dX4_counts_98 hl (by decide) rfl (fun ls hl => ?_)
                refine lv_iinc (v := nI (r + 1)) (lv' := [(6, .int (nI (r + 1))), (5, .int 0), (4, .int 1), (0, .ref (adr 30)), (1, .int (nI d)), (2, .int (nI i)), (3, .int mm)]) hx hb dX4_counts_100 hl (k := 2) rfl (nI_1 _) (by decide) rfl (fun ls hl => ?_)
                refine lv_goto (tgt := 26) hx hb dX4_counts_103 (by decide) ?_
                exact ih (r + 1) true false (by omega) (by omega) (by show (c_sd S i || (anB (fun r => c_rv S i r && c_sd S r) r || (c_rv S i r && c_sd S r))) = _; rw [← Bool.or_assoc, h1]; first | (rw [n37]; rfl) | (rw [n47, n57]; simp; done)) (by show (anB (fun r => c_rv S i r && c_had S d r mm) r || (c_rv S i r && c_had S d r mm)) = _; rw [h2]; rw [n69]; first | (rw [n90]; simp; done) | (rw [n79]; simp; done)) ls (lv_sub hl [0, 2, 1, 3, 4, 5, 6] rfl)
              · have n79 : (c_rv S i r) = true := bI_1.mp c79
                refine lv_aload_n hx hb dX4_counts_82 rfl (lv_at hl 3 rfl) ?_
                refine lv_iload_n hx hb dX4_counts_83 rfl (lv_at hl 4 rfl) ?_
                refine lv_iload hx hb dX4_counts_84 (lv_at hl 1 rfl) ?_
                refine lv_iload_n hx hb dX4_counts_86 rfl (lv_at hl 6 rfl) ?_
                refine wn_rV (rest := []) hx hb hml hown hG hN hP (cX4_sees_r hn hV hR (d := d) (j := r) hd (by omega) mm) (cwV 3 hG (gV g_611 g_613 gp_X4_sees g_5 g_614) rfl rfl rfl (by decide +kernel) ⟨Nat.le_of_ble_eq_true rfl, Nat.le_of_ble_eq_true rfl⟩) (by omega) hM0 rfl rfl hl.1 rfl (Nat.le_of_ble_eq_true rfl) dX4_counts_87 ⟨Nat.le_of_ble_eq_true rfl, Nat.le_of_ble_eq_true rfl⟩ ?_
                refine lv_if_eq (tgt := 97) hx hb dX4_counts_90 (by decide) (fun c90 => ?_) (fun c90 => ?_)
                · have n90 : (c_had S d r mm) = false := bI_0.mp c90
                  refine lv_iconst (v := 0) hx hb dX4_counts_97 (by decide) ?_
                  refine lv_istore (lv' := [(5, .int 0), (4, .int 1), (6, .int (nI r)), (0, .ref (adr 30)), (1, .int (nI d)), (2, .int (nI i)), (3, .int mm)]) hx hb dX4_counts_98 hl (by decide) rfl (fun ls hl => ?_)
                  refine lv_iinc (v := nI (r + 1)) (lv' := [(6, .int (nI (r + 1))), (5, .int 0), (4, .int 1), (0, .ref (adr 30)), (1, .int (nI d)), (2, .int (nI i)), (3, .int mm)]) hx hb dX4_counts_100 hl (k := 2) rfl (nI_1 _) (by decide) rfl (fun ls hl => ?_)
                  refine lv_goto (tgt := 26) hx hb dX4_counts_103 (by decide) ?_
                  exact ih (r + 1) true false (by omega) (by omega) (by show (c_sd S i || (anB (fun r => c_rv S i r && c_sd S r) r || (c_rv S i r && c_sd S r))) = _; rw [← Bool.or_assoc, h1]; first | (rw [n37]; rfl) | (rw [n47, n57]; simp; done)) (by show (anB (fun r => c_rv S i r && c_had S d r mm) r || (c_rv S i r && c_had S d r mm)) = _; rw [h2]; rw [n69]; first | (rw [n90]; simp; done) | (rw [n79]; simp; done)) ls (lv_sub hl [0, 2, 1, 3, 4, 5, 6] rfl)
                · have n90 : (c_had S d r mm) = true := bI_1.mp c90
                  refine lv_iconst (v := 1) hx hb dX4_counts_93 (by decide) ?_
                  refine lv_goto (tgt := 98) hx hb dX4_counts_94 (by decide) ?_
                  refine lv_istore (lv' := [(5, .int 1), (4, .int 1), (6, .int (nI r)), (0, .ref (adr 30)), (1, .int (nI d)), (2, .int (nI i)), (3, .int mm)]) hx hb dX4_counts_98 hl (by decide) rfl (fun ls hl => ?_)
                  refine lv_iinc (v := nI (r + 1)) (lv' := [(6, .int (nI (r + 1))), (5, .int 1), (4, .int 1), (0, .ref (adr 30)), (1, .int (nI d)), (2, .int (nI i)), (3, .int mm)]) hx hb dX4_counts_100 hl (k := 2) rfl (nI_1 _) (by decide) rfl (fun ls hl => ?_)
                  refine lv_goto (tgt := 26) hx hb dX4_counts_103 (by decide) ?_
                  exact ih (r + 1) true true (by omega) (by omega) (by show (c_sd S i || (anB (fun r => c_rv S i r && c_sd S r) r || (c_rv S i r && c_sd S r))) = _; rw [← Bool.or_assoc, h1]; first | (rw [n37]; rfl) | (rw [n47, n57]; simp; done)) (by show (anB (fun r => c_rv S i r && c_had S d r mm) r || (c_rv S i r && c_had S d r mm)) = _; rw [h2]; first | (rw [n69]; rfl) | (rw [n79, n90]; simp; done)) ls (lv_sub hl [0, 2, 1, 3, 4, 5, 6] rfl)
          · have n37 : x1 = false := bI_0.mp c37
            refine lv_aload_n hx hb dX4_counts_40 rfl (lv_at hl 3 rfl) ?_
            refine lv_iload_n hx hb dX4_counts_41 rfl (lv_at hl 5 rfl) ?_
            refine lv_iload hx hb dX4_counts_42 (lv_at hl 0 rfl) ?_
            refine wn_rV (rest := []) hx hb hml hown hG hN hP (cX4_areRivals_r hn hV hR (i := i) (j := r) (by omega) (by omega)) (cwV 2 hG (gV g_587 g_589 gp_X4_areRivals g_5 g_590) rfl rfl rfl (by decide +kernel) ⟨Nat.le_of_ble_eq_true rfl, Nat.le_of_ble_eq_true rfl⟩) (by omega) hM0 rfl rfl hl.1 rfl (Nat.le_of_ble_eq_true rfl) dX4_counts_44 ⟨Nat.le_of_ble_eq_true rfl, Nat.le_of_ble_eq_true rfl⟩ ?_
            refine lv_if_eq (tgt := 64) hx hb dX4_counts_47 (by decide) (fun c47 => ?_) (fun c47 => ?_)
            · have n47 : (c_rv S i r) = false := bI_0.mp c47
              refine lv_iconst (v := 0) hx hb dX4_counts_64 (by decide) ?_
              refine lv_istore (lv' := [(4, .int 0), (6, .int (nI r)), (5, .int (bI x2)), (0, .ref (adr 30)), (1, .int (nI d)), (2, .int (nI i)), (3, .int mm)]) hx hb dX4_counts_65 hl (by decide) rfl (fun ls hl => ?_)
              refine lv_iload hx hb dX4_counts_67 (lv_at hl 2 rfl) ?_
              refine lv_if_ne (tgt := 93) hx hb dX4_counts_69 (by decide) (fun c69 => ?_) (fun c69 => ?_)
              · have n69 : x2 = true := bI_1.mp c69
                refine lv_iconst (v := 1) hx hb dX4_counts_93 (by decide) ?_
                refine lv_goto (tgt := 98) hx hb dX4_counts_94 (by decide) ?_
                refine lv_istore (lv' := [(5, .int 1), (4, .int 0), (6, .int (nI r)), (0, .ref (adr 30)), (1, .int (nI d)), (2, .int (nI i)), (3, .int mm)]) hx hb dX4_counts_98 hl (by decide) rfl (fun ls hl => ?_)
                refine lv_iinc (v := nI (r + 1)) (lv' := [(6, .int (nI (r + 1))), (5, .int 1), (4, .int 0), (0, .ref (adr 30)), (1, .int (nI d)), (2, .int (nI i)), (3, .int mm)]) hx hb dX4_counts_100 hl (k := 2) rfl (nI_1 _) (by decide) rfl (fun ls hl => ?_)
                refine lv_goto (tgt := 26) hx hb dX4_counts_103 (by decide) ?_
                exact ih (r + 1) false true (by omega) (by omega) (by show (c_sd S i || (anB (fun r => c_rv S i r && c_sd S r) r || (c_rv S i r && c_sd S r))) = _; rw [← Bool.or_assoc, h1]; rw [n37]; first | (rw [n57]; simp; done) | (rw [n47]; simp; done)) (by show (anB (fun r => c_rv S i r && c_had S d r mm) r || (c_rv S i r && c_had S d r mm)) = _; rw [h2]; first | (rw [n69]; rfl) | (rw [n79, n90]; simp; done)) ls (lv_sub hl [0, 2, 1, 3, 4, 5, 6] rfl)
              · have n69 : x2 = false := bI_0.mp c69
                refine lv_aload_n hx hb dX4_counts_72 rfl (lv_at hl 3 rfl) ?_
                refine lv_iload_n hx hb dX4_counts_73 rfl (lv_at hl 5 rfl) ?_
                refine lv_iload hx hb dX4_counts_74 (lv_at hl 1 rfl) ?_
                refine wn_rV (rest := []) hx hb hml hown hG hN hP (cX4_areRivals_r hn hV hR (i := i) (j := r) (by omega) (by omega)) (cwV 2 hG (gV g_587 g_589 gp_X4_areRivals g_5 g_590) rfl rfl rfl (by decide +kernel) ⟨Nat.le_of_ble_eq_true rfl, Nat.le_of_ble_eq_true rfl⟩) (by omega) hM0 rfl rfl hl.1 rfl (Nat.le_of_ble_eq_true rfl) dX4_counts_76 ⟨Nat.le_of_ble_eq_true rfl, Nat.le_of_ble_eq_true rfl⟩ ?_
                refine lv_if_eq (tgt := 97) hx hb dX4_counts_79 (by decide) (fun c79 => ?_) (fun c79 => ?_)
                · have n79 : (c_rv S i r) = false := bI_0.mp c79
                  refine lv_iconst (v := 0) hx hb dX4_counts_97 (by decide) ?_
                  refine lv_istore (lv' := [(5, .int 0), (4, .int 0), (6, .int (nI r)), (0, .ref (adr 30)), (1, .int (nI d)), (2, .int (nI i)), (3, .int mm)]) hx hb dX4_counts_98 hl (by decide) rfl (fun ls hl => ?_)
                  refine lv_iinc (v := nI (r + 1)) (lv' := [(6, .int (nI (r + 1))), (5, .int 0), (4, .int 0), (0, .ref (adr 30)), (1, .int (nI d)), (2, .int (nI i)), (3, .int mm)]) hx hb dX4_counts_100 hl (k := 2) rfl (nI_1 _) (by decide) rfl (fun ls hl => ?_)
                  refine lv_goto (tgt := 26) hx hb dX4_counts_103 (by decide) ?_
                  exact ih (r + 1) false false (by omega) (by omega) (by show (c_sd S i || (anB (fun r => c_rv S i r && c_sd S r) r || (c_rv S i r && c_sd S r))) = _; rw [← Bool.or_assoc, h1]; rw [n37]; first | (rw [n57]; simp; done) | (rw [n47]; simp; done)) (by show (anB (fun r => c_rv S i r && c_had S d r mm) r || (c_rv S i r && c_had S d r mm)) = _; rw [h2]; rw [n69]; first | (rw [n90]; simp; done) | (rw [n79]; simp; done)) ls (lv_sub hl [0, 2, 1, 3, 4, 5, 6] rfl)
                · have n79 : (c_rv S i r) = true := bI_1.mp c79
                  refine lv_aload_n hx hb dX4_counts_82 rfl (lv_at hl 3 rfl) ?_
                  refine lv_iload_n hx hb dX4_counts_83 rfl (lv_at hl 4 rfl) ?_
                  refine lv_iload hx hb dX4_counts_84 (lv_at hl 1 rfl) ?_
                  refine lv_iload_n hx hb dX4_counts_86 rfl (lv_at hl 6 rfl) ?_
                  refine wn_rV (rest := []) hx hb hml hown hG hN hP (cX4_sees_r hn hV hR (d := d) (j := r) hd (by omega) mm) (cwV 3 hG (gV g_611 g_613 gp_X4_sees g_5 g_614) rfl rfl rfl (by decide +kernel) ⟨Nat.le_of_ble_eq_true rfl, Nat.le_of_ble_eq_true rfl⟩) (by omega) hM0 rfl rfl hl.1 rfl (Nat.le_of_ble_eq_true rfl) dX4_counts_87 ⟨Nat.le_of_ble_eq_true rfl, Nat.le_of_ble_eq_true rfl⟩ ?_
                  refine lv_if_eq (tgt := 97) hx hb dX4_counts_90 (by decide) (fun c90 => ?_) (fun c90 => ?_)
                  · have n90 : (c_had S d r mm) = false := bI_0.mp c90
                    refine lv_iconst (v := 0) hx hb dX4_counts_97 (by decide) ?_
                    refine lv_istore (lv' := [(5, .int 0), (4, .int 0), (6, .int (nI r)), (0, .ref (adr 30)), (1, .int (nI d)), (2, .int (nI i)), (3, .int mm)]) hx hb dX4_counts_98 hl (by decide) rfl (fun ls hl => ?_)
                    refine lv_iinc (v := nI (r + 1)) (lv' := [(6, .int (nI (r + 1))), (5, .int 0), (4, .int 0), (0, .ref (adr 30)), (1, .int (nI d)), (2, .int (nI i)), (3, .int mm)]) hx hb dX4_counts_100 hl (k := 2) rfl (nI_1 _) (by decide) rfl (fun ls hl => ?_)
                    refine lv_goto (tgt := 26) hx hb dX4_counts_103 (by decide) ?_
                    exact ih (r + 1) false false (by omega) (by omega) (by show (c_sd S i || (anB (fun r => c_rv S i r && c_sd S r) r || (c_rv S i r && c_sd S r))) = _; rw [← Bool.or_assoc, h1]; rw [n37]; first | (rw [n57]; simp; done) | (rw [n47]; simp; done)) (by show (anB (fun r => c_rv S i r && c_had S d r mm) r || (c_rv S i r && c_had S d r mm)) = _; rw [h2]; rw [n69]; first | (rw [n90]; simp; done) | (rw [n79]; simp; done)) ls (lv_sub hl [0, 2, 1, 3, 4, 5, 6] rfl)
                  · have n90 : (c_had S d r mm) = true := bI_1.mp c90
                    refine lv_iconst (v := 1) hx hb dX4_counts_93 (by decide) ?_
                    refine lv_goto (tgt := 98) hx hb dX4_counts_94 (by decide) ?_
                    refine lv_istore (lv' := [(5, .int 1), (4, .int 0), (6, .int (nI r)), (0, .ref (adr 30)), (1, .int (nI d)), (2, .int (nI i)), (3, .int mm)]) hx hb dX4_counts_98 hl (by decide) rfl (fun ls hl => ?_)
                    refine lv_iinc (v := nI (r + 1)) (lv' := [(6, .int (nI (r + 1))), (5, .int 1), (4, .int 0), (0, .ref (adr 30)), (1, .int (nI d)), (2, .int (nI i)), (3, .int mm)]) hx hb dX4_counts_100 hl (k := 2) rfl (nI_1 _) (by decide) rfl (fun ls hl => ?_)
                    refine lv_goto (tgt := 26) hx hb dX4_counts_103 (by decide) ?_
                    exact ih (r + 1) false true (by omega) (by omega) (by show (c_sd S i || (anB (fun r => c_rv S i r && c_sd S r) r || (c_rv S i r && c_sd S r))) = _; rw [← Bool.or_assoc, h1]; rw [n37]; first | (rw [n57]; simp; done) | (rw [n47]; simp; done)) (by show (anB (fun r => c_rv S i r && c_had S d r mm) r || (c_rv S i r && c_had S d r mm)) = _; rw [h2]; first | (rw [n69]; rfl) | (rw [n79, n90]; simp; done)) ls (lv_sub hl [0, 2, 1, 3, 4, 5, 6] rfl)
            · have n47 : (c_rv S i r) = true := bI_1.mp c47
              refine lv_aload_n hx hb dX4_counts_50 rfl (lv_at hl 3 rfl) ?_
              refine va_get (D := D) (ci := 4) (v := .ref (adr 41)) (C := RX4) (T := TX4) (N := 16) hx hb hG inG_X4 hown hK hP 30 (wl_at (by omega) hM0) rfl 12 (by decide) (hG _ g_505) (fun _ h9 => h9) rfl dX4_counts_51 ?_
              refine lv_iload hx hb dX4_counts_54 (lv_at hl 0 rfl) ?_
              refine wn_zald (j := r) hx hb hK hP (by omega) hM11 (by omega) (by decide) dX4_counts_56 ?_
              refine lv_if_eq (tgt := 64) hx hb dX4_counts_57 (by decide) (fun c57 => ?_) (fun c57 => ?_)
              · have n57 : (c_sd S r) = false := bI_0.mp c57
                refine lv_iconst (v := 0) hx hb dX4_counts_64 (by decide) ?_
                refine lv_istore (lv' := [(4, .int 0), (6, .int (nI r)), (5, .int (bI x2)), (0, .ref (adr 30)), (1, .int (nI d)), (2, .int (nI i)), (3, .int mm)]) hx hb dX4_counts_65 hl (by decide) rfl (fun ls hl => ?_)
                refine lv_iload hx hb dX4_counts_67 (lv_at hl 2 rfl) ?_
                refine lv_if_ne (tgt := 93) hx hb dX4_counts_69 (by decide) (fun c69 => ?_) (fun c69 => ?_)
                · have n69 : x2 = true := bI_1.mp c69
                  refine lv_iconst (v := 1) hx hb dX4_counts_93 (by decide) ?_
                  refine lv_goto (tgt := 98) hx hb dX4_counts_94 (by decide) ?_
                  refine lv_istore (lv' := [(5, .int 1), (4, .int 0), (6, .int (nI r)), (0, .ref (adr 30)), (1, .int (nI d)), (2, .int (nI i)), (3, .int mm)]) hx hb dX4_counts_98 hl (by decide) rfl (fun ls hl => ?_)
                  refine lv_iinc (v := nI (r + 1)) (lv' := [(6, .int (nI (r + 1))), (5, .int 1), (4, .int 0), (0, .ref (adr 30)), (1, .int (nI d)), (2, .int (nI i)), (3, .int mm)]) hx hb dX4_counts_100 hl (k := 2) rfl (nI_1 _) (by decide) rfl (fun ls hl => ?_)
                  refine lv_goto (tgt := 26) hx hb dX4_counts_103 (by decide) ?_
                  exact ih (r + 1) false true (by omega) (by omega) (by show (c_sd S i || (anB (fun r => c_rv S i r && c_sd S r) r || (c_rv S i r && c_sd S r))) = _; rw [← Bool.or_assoc, h1]; rw [n37]; first | (rw [n57]; simp; done) | (rw [n47]; simp; done)) (by show (anB (fun r => c_rv S i r && c_had S d r mm) r || (c_rv S i r && c_had S d r mm)) = _; rw [h2]; first | (rw [n69]; rfl) | (rw [n79, n90]; simp; done)) ls (lv_sub hl [0, 2, 1, 3, 4, 5, 6] rfl)
                · have n69 : x2 = false := bI_0.mp c69
                  refine lv_aload_n hx hb dX4_counts_72 rfl (lv_at hl 3 rfl) ?_
                  refine lv_iload_n hx hb dX4_counts_73 rfl (lv_at hl 5 rfl) ?_
                  refine lv_iload hx hb dX4_counts_74 (lv_at hl 1 rfl) ?_
                  refine wn_rV (rest := []) hx hb hml hown hG hN hP (cX4_areRivals_r hn hV hR (i := i) (j := r) (by omega) (by omega)) (cwV 2 hG (gV g_587 g_589 gp_X4_areRivals g_5 g_590) rfl rfl rfl (by decide +kernel) ⟨Nat.le_of_ble_eq_true rfl, Nat.le_of_ble_eq_true rfl⟩) (by omega) hM0 rfl rfl hl.1 rfl (Nat.le_of_ble_eq_true rfl) dX4_counts_76 ⟨Nat.le_of_ble_eq_true rfl, Nat.le_of_ble_eq_true rfl⟩ ?_
                  refine lv_if_eq (tgt := 97) hx hb dX4_counts_79 (by decide) (fun c79 => ?_) (fun c79 => ?_)
                  · have n79 : (c_rv S i r) = false := bI_0.mp c79
                    refine lv_iconst (v := 0) hx hb dX4_counts_97 (by decide) ?_
                    refine lv_istore (lv' := [(5, .int 0), (4, .int 0), (6, .int (nI r)), (0, .ref (adr 30)), (1, .int (nI d)), (2, .int (nI i)), (3, .int mm)]) hx hb dX4_counts_98 hl (by decide) rfl (fun ls hl => ?_)
                    refine lv_iinc (v := nI (r + 1)) (lv' := [(6, .int (nI (r + 1))), (5, .int 0), (4, .int 0), (0, .ref (adr 30)), (1, .int (nI d)), (2, .int (nI i)), (3, .int mm)]) hx hb dX4_counts_100 hl (k := 2) rfl (nI_1 _) (by decide) rfl (fun ls hl => ?_)
                    refine lv_goto (tgt := 26) hx hb dX4_counts_103 (by decide) ?_
                    exact ih (r + 1) false false (by omega) (by omega) (by show (c_sd S i || (anB (fun r => c_rv S i r && c_sd S r) r || (c_rv S i r && c_sd S r))) = _; rw [← Bool.or_assoc, h1]; rw [n37]; first | (rw [n57]; simp; done) | (rw [n47]; simp; done)) (by show (anB (fun r => c_rv S i r && c_had S d r mm) r || (c_rv S i r && c_had S d r mm)) = _; rw [h2]; rw [n69]; first | (rw [n90]; simp; done) | (rw [n79]; simp; done)) ls (lv_sub hl [0, 2, 1, 3, 4, 5, 6] rfl)
                  · have n79 : (c_rv S i r) = true := bI_1.mp c79
                    refine lv_aload_n hx hb dX4_counts_82 rfl (lv_at hl 3 rfl) ?_
                    refine lv_iload_n hx hb dX4_counts_83 rfl (lv_at hl 4 rfl) ?_
                    refine lv_iload hx hb dX4_counts_84 (lv_at hl 1 rfl) ?_
                    refine lv_iload_n hx hb dX4_counts_86 rfl (lv_at hl 6 rfl) ?_
                    refine wn_rV (rest := []) hx hb hml hown hG hN hP (cX4_sees_r hn hV hR (d := d) (j := r) hd (by omega) mm) (cwV 3 hG (gV g_611 g_613 gp_X4_sees g_5 g_614) rfl rfl rfl (by decide +kernel) ⟨Nat.le_of_ble_eq_true rfl, Nat.le_of_ble_eq_true rfl⟩) (by omega) hM0 rfl rfl hl.1 rfl (Nat.le_of_ble_eq_true rfl) dX4_counts_87 ⟨Nat.le_of_ble_eq_true rfl, Nat.le_of_ble_eq_true rfl⟩ ?_
                    refine lv_if_eq (tgt := 97) hx hb dX4_counts_90 (by decide) (fun c90 => ?_) (fun c90 => ?_)
                    · have n90 : (c_had S d r mm) = false := bI_0.mp c90
                      refine lv_iconst (v := 0) hx hb dX4_counts_97 (by decide) ?_
                      refine lv_istore (lv' := [(5, .int 0), (4, .int 0), (6, .int (nI r)), (0, .ref (adr 30)), (1, .int (nI d)), (2, .int (nI i)), (3, .int mm)]) hx hb dX4_counts_98 hl (by decide) rfl (fun ls hl => ?_)
                      refine lv_iinc (v := nI (r + 1)) (lv' := [(6, .int (nI (r + 1))), (5, .int 0), (4, .int 0), (0, .ref (adr 30)), (1, .int (nI d)), (2, .int (nI i)), (3, .int mm)]) hx hb dX4_counts_100 hl (k := 2) rfl (nI_1 _) (by decide) rfl (fun ls hl => ?_)
                      refine lv_goto (tgt := 26) hx hb dX4_counts_103 (by decide) ?_
                      exact ih (r + 1) false false (by omega) (by omega) (by show (c_sd S i || (anB (fun r => c_rv S i r && c_sd S r) r || (c_rv S i r && c_sd S r))) = _; rw [← Bool.or_assoc, h1]; rw [n37]; first | (rw [n57]; simp; done) | (rw [n47]; simp; done)) (by show (anB (fun r => c_rv S i r && c_had S d r mm) r || (c_rv S i r && c_had S d r mm)) = _; rw [h2]; rw [n69]; first | (rw [n90]; simp; done) | (rw [n79]; simp; done)) ls (lv_sub hl [0, 2, 1, 3, 4, 5, 6] rfl)
                    · have n90 : (c_had S d r mm) = true := bI_1.mp c90
                      refine lv_iconst (v := 1) hx hb dX4_counts_93 (by decide) ?_
                      refine lv_goto (tgt := 98) hx hb dX4_counts_94 (by decide) ?_
                      refine lv_istore (lv' := [(5, .int 1), (4, .int 0), (6, .int (nI r)), (0, .ref (adr 30)), (1, .int (nI d)), (2, .int (nI i)), (3, .int mm)]) hx hb dX4_counts_98 hl (by decide) rfl (fun ls hl => ?_)
                      refine lv_iinc (v := nI (r + 1)) (lv' := [(6, .int (nI (r + 1))), (5, .int 1), (4, .int 0), (0, .ref (adr 30)), (1, .int (nI d)), (2, .int (nI i)), (3, .int mm)]) hx hb dX4_counts_100 hl (k := 2) rfl (nI_1 _) (by decide) rfl (fun ls hl => ?_)
                      refine lv_goto (tgt := 26) hx hb dX4_counts_103 (by decide) ?_
                      exact ih (r + 1) false true (by omega) (by omega) (by show (c_sd S i || (anB (fun r => c_rv S i r && c_sd S r) r || (c_rv S i r && c_sd S r))) = _; rw [← Bool.or_assoc, h1]; rw [n37]; first | (rw [n57]; simp; done) | (rw [n47]; simp; done)) (by show (anB (fun r => c_rv S i r && c_had S d r mm) r || (c_rv S i r && c_had S d r mm)) = _; rw [h2]; first | (rw [n69]; rfl) | (rw [n79, n90]; simp; done)) ls (lv_sub hl [0, 2, 1, 3, 4, 5, 6] rfl)
              · have n57 : (c_sd S r) = true := bI_1.mp c57
                refine lv_iconst (v := 1) hx hb dX4_counts_60 (by decide) ?_
                refine lv_goto (tgt := 65) hx hb dX4_counts_61 (by decide) ?_
                refine lv_istore (lv' := [(4, .int 1), (6, .int (nI r)), (5, .int (bI x2)), (0, .ref (adr 30)), (1, .int (nI d)), (2, .int (nI i)), (3, .int mm)]) hx hb dX4_counts_65 hl (by decide) rfl (fun ls hl => ?_)
                refine lv_iload hx hb dX4_counts_67 (lv_at hl 2 rfl) ?_
                refine lv_if_ne (tgt := 93) hx hb dX4_counts_69 (by decide) (fun c69 => ?_) (fun c69 => ?_)
                · have n69 : x2 = true := bI_1.mp c69
                  refine lv_iconst (v := 1) hx hb dX4_counts_93 (by decide) ?_
                  refine lv_goto (tgt := 98) hx hb dX4_counts_94 (by decide) ?_
                  refine lv_istore (lv' := [(5, .int 1), (4, .int 1), (6, .int (nI r)), (0, .ref (adr 30)), (1, .int (nI d)), (2, .int (nI i)), (3, .int mm)]) hx hb dX4_counts_98 hl (by decide) rfl (fun ls hl => ?_)
                  refine lv_iinc (v := nI (r + 1)) (lv' := [(6, .int (nI (r + 1))), (5, .int 1), (4, .int 1), (0, .ref (adr 30)), (1, .int (nI d)), (2, .int (nI i)), (3, .int mm)]) hx hb dX4_counts_100 hl (k := 2) rfl (nI_1 _) (by decide) rfl (fun ls hl => ?_)
                  refine lv_goto (tgt := 26) hx hb dX4_counts_103 (by decide) ?_
                  exact ih (r + 1) true true (by omega) (by omega) (by show (c_sd S i || (anB (fun r => c_rv S i r && c_sd S r) r || (c_rv S i r && c_sd S r))) = _; rw [← Bool.or_assoc, h1]; first | (rw [n37]; rfl) | (rw [n47, n57]; simp; done)) (by show (anB (fun r => c_rv S i r && c_had S d r mm) r || (c_rv S i r && c_had S d r mm)) = _; rw [h2]; first | (rw [n69]; rfl) | (rw [n79, n90]; simp; done)) ls (lv_sub hl [0, 2, 1, 3, 4, 5, 6] rfl)
                · have n69 : x2 = false := bI_0.mp c69
                  refine lv_aload_n hx hb dX4_counts_72 rfl (lv_at hl 3 rfl) ?_
                  refine lv_iload_n hx hb dX4_counts_73 rfl (lv_at hl 5 rfl) ?_
                  refine lv_iload hx hb dX4_counts_74 (lv_at hl 1 rfl) ?_
                  refine wn_rV (rest := []) hx hb hml hown hG hN hP (cX4_areRivals_r hn hV hR (i := i) (j := r) (by omega) (by omega)) (cwV 2 hG (gV g_587 g_589 gp_X4_areRivals g_5 g_590) rfl rfl rfl (by decide +kernel) ⟨Nat.le_of_ble_eq_true rfl, Nat.le_of_ble_eq_true rfl⟩) (by omega) hM0 rfl rfl hl.1 rfl (Nat.le_of_ble_eq_true rfl) dX4_counts_76 ⟨Nat.le_of_ble_eq_true rfl, Nat.le_of_ble_eq_true rfl⟩ ?_
                  refine lv_if_eq (tgt := 97) hx hb dX4_counts_79 (by decide) (fun c79 => ?_) (fun c79 => ?_)
                  · have n79 : (c_rv S i r) = false := bI_0.mp c79
                    refine lv_iconst (v := 0) hx hb dX4_counts_97 (by decide) ?_
                    refine lv_istore (lv' := [(5, .int 0), (4, .int 1), (6, .int (nI r)), (0, .ref (adr 30)), (1, .int (nI d)), (2, .int (nI i)), (3, .int mm)]) hx hb dX4_counts_98 hl (by decide) rfl (fun ls hl => ?_)
                    refine lv_iinc (v := nI (r + 1)) (lv' := [(6, .int (nI (r + 1))), (5, .int 0), (4, .int 1), (0, .ref (adr 30)), (1, .int (nI d)), (2, .int (nI i)), (3, .int mm)]) hx hb dX4_counts_100 hl (k := 2) rfl (nI_1 _) (by decide) rfl (fun ls hl => ?_)
                    refine lv_goto (tgt := 26) hx hb dX4_counts_103 (by decide) ?_
                    exact ih (r + 1) true false (by omega) (by omega) (by show (c_sd S i || (anB (fun r => c_rv S i r && c_sd S r) r || (c_rv S i r && c_sd S r))) = _; rw [← Bool.or_assoc, h1]; first | (rw [n37]; rfl) | (rw [n47, n57]; simp; done)) (by show (anB (fun r => c_rv S i r && c_had S d r mm) r || (c_rv S i r && c_had S d r mm)) = _; rw [h2]; rw [n69]; first | (rw [n90]; simp; done) | (rw [n79]; simp; done)) ls (lv_sub hl [0, 2, 1, 3, 4, 5, 6] rfl)
                  · have n79 : (c_rv S i r) = true := bI_1.mp c79
                    refine lv_aload_n hx hb dX4_counts_82 rfl (lv_at hl 3 rfl) ?_
                    refine lv_iload_n hx hb dX4_counts_83 rfl (lv_at hl 4 rfl) ?_
                    refine lv_iload hx hb dX4_counts_84 (lv_at hl 1 rfl) ?_
                    refine lv_iload_n hx hb dX4_counts_86 rfl (lv_at hl 6 rfl) ?_
                    refine wn_rV (rest := []) hx hb hml hown hG hN hP (cX4_sees_r hn hV hR (d := d) (j := r) hd (by omega) mm) (cwV 3 hG (gV g_611 g_613 gp_X4_sees g_5 g_614) rfl rfl rfl (by decide +kernel) ⟨Nat.le_of_ble_eq_true rfl, Nat.le_of_ble_eq_true rfl⟩) (by omega) hM0 rfl rfl hl.1 rfl (Nat.le_of_ble_eq_true rfl) dX4_counts_87 ⟨Nat.le_of_ble_eq_true rfl, Nat.le_of_ble_eq_true rfl⟩ ?_
                    refine lv_if_eq (tgt := 97) hx hb dX4_counts_90 (by decide) (fun c90 => ?_) (fun c90 => ?_)
                    · have n90 : (c_had S d r mm) = false := bI_0.mp c90
                      refine lv_iconst (v := 0) hx hb dX4_counts_97 (by decide) ?_
                      refine lv_istore (lv' := [(5, .int 0), (4, .int 1), (6, .int (nI r)), (0, .ref (adr 30)), (1, .int (nI d)), (2, .int (nI i)), (3, .int mm)]) hx hb dX4_counts_98 hl (by decide) rfl (fun ls hl => ?_)
                      refine lv_iinc (v := nI (r + 1)) (lv' := [(6, .int (nI (r + 1))), (5, .int 0), (4, .int 1), (0, .ref (adr 30)), (1, .int (nI d)), (2, .int (nI i)), (3, .int mm)]) hx hb dX4_counts_100 hl (k := 2) rfl (nI_1 _) (by decide) rfl (fun ls hl => ?_)
                      refine lv_goto (tgt := 26) hx hb dX4_counts_103 (by decide) ?_
                      exact ih (r + 1) true false (by omega) (by omega) (by show (c_sd S i || (anB (fun r => c_rv S i r && c_sd S r) r || (c_rv S i r && c_sd S r))) = _; rw [← Bool.or_assoc, h1]; first | (rw [n37]; rfl) | (rw [n47, n57]; simp; done)) (by show (anB (fun r => c_rv S i r && c_had S d r mm) r || (c_rv S i r && c_had S d r mm)) = _; rw [h2]; rw [n69]; first | (rw [n90]; simp; done) | (rw [n79]; simp; done)) ls (lv_sub hl [0, 2, 1, 3, 4, 5, 6] rfl)
                    · have n90 : (c_had S d r mm) = true := bI_1.mp c90
                      refine lv_iconst (v := 1) hx hb dX4_counts_93 (by decide) ?_
                      refine lv_goto (tgt := 98) hx hb dX4_counts_94 (by decide) ?_
                      refine lv_istore (lv' := [(5, .int 1), (4, .int 1), (6, .int (nI r)), (0, .ref (adr 30)), (1, .int (nI d)), (2, .int (nI i)), (3, .int mm)]) hx hb dX4_counts_98 hl (by decide) rfl (fun ls hl => ?_)
                      refine lv_iinc (v := nI (r + 1)) (lv' := [(6, .int (nI (r + 1))), (5, .int 1), (4, .int 1), (0, .ref (adr 30)), (1, .int (nI d)), (2, .int (nI i)), (3, .int mm)]) hx hb dX4_counts_100 hl (k := 2) rfl (nI_1 _) (by decide) rfl (fun ls hl => ?_)
                      refine lv_goto (tgt := 26) hx hb dX4_counts_103 (by decide) ?_
                      exact ih (r + 1) true true (by omega) (by omega) (by show (c_sd S i || (anB (fun r => c_rv S i r && c_sd S r) r || (c_rv S i r && c_sd S r))) = _; rw [← Bool.or_assoc, h1]; first | (rw [n37]; rfl) | (rw [n47, n57]; simp; done)) (by show (anB (fun r => c_rv S i r && c_had S d r mm) r || (c_rv S i r && c_had S d r mm)) = _; rw [h2]; first | (rw [n69]; rfl) | (rw [n79, n90]; simp; done)) ls (lv_sub hl [0, 2, 1, 3, 4, 5, 6] rfl)
    exact L26 (c_ct S + 1) 0 (c_sd S i) false (by omega) (by omega) (Bool.or_false _) rfl ls (lv_sub hl [0, 2, 1, 3, 4, 5, 6] rfl)
  · have n7 : (c_had S d i mm) = false := bI_0.mp c7
    refine lv_iconst (v := 0) hx hb dX4_counts_10 (by decide) ?_
    have h9 : (0 : Int32) = bI (c_had S d i mm && c_cnt S d i mm) := by rw [n7]; rfl
    exact W.zret (v := 0) hx hb hr (by first | rfl | exact bI_nar _) (fun t ht _ => ⟨congrArg (fun z => Outcome.returned (some (Value.int z))) h9, ht⟩) (fun _ h => nomatch h) dX4_counts_11

set_option maxHeartbeats 4000000 in
set_option maxRecDepth 100000 in
theorem cX4_isLater_r {l : Launch} {D : va_G} {cA : Nat → ClassId} {adr : Nat → Nat} {n : Nat} {E : Nat → va_E} {S : CS} {th : Int32} (hn : 45 ≤ n) (hV : Inv S) (hR : RepM cA adr S th E) {i j : Nat} (hi : i < 120) (hj : j < 120) : Met l yX4_isLater (.code yX4_isLater cX4_isLater 5 (some .boolean) :: lw_G) ({ frames := 1, cells := 0, slots := 0, locals := 28 } : Room) (va_Pc [.ref (adr 30), .int (nI i), .int (nI j)] (wdU D (kty cA) adr n E)) (QcRead (bI (c_ltr S i j))) 0 0 (fun _ => False) := by
  refine Met.ofW (cc := cX4_isLater) (maxL := 5) (ret := (some .boolean)) (by decide) rfl ?_
  intro p e s m args below meth c s₁ B hml hv
  obtain ⟨rfl, hP, hN⟩ := hv
  have hx := B.exec
  have hb := B.bytes
  have hr := B.returns
  have hG : ∀ w ∈ lw_G, w.before _ s = true := fun w h => atoms_spec (ws := _ :: lw_G) B.pre w (List.mem_cons_of_mem _ h)
  have hown : s.vm.findClass RX4 = some m.cls := findClass_of_methodNamed B.named
  have hlocks := B.notSynchronized
  have hK := hN.1
  have hl := lv_entry ([.ref (adr 30), .int (nI i), .int (nI j)]) (n := 5) (Nat.le_of_ble_eq_true rfl)
  rw [lg_entry_eq]
  generalize (lg_sl ([.ref (adr 30), .int (nI i), .int (nI j)]) ++ List.replicate (5 - (lg_sl ([.ref (adr 30), .int (nI i), .int (nI j)])).length) Slot.unset).toArray = ls at hl ⊢
  have hl : lv_has ls 5 [(0, .ref (adr 30)), (1, .int (nI i)), (2, .int (nI j))] := hl
  obtain ⟨hM0, hM1, hM2, hM3, hM4, hM5, hM6, hM7, hM8, hM9, hM10, hM11, hM12, hM13, hM14⟩ := id hR
  obtain ⟨hct, hnm, htd, hmk, hlf, hnt, hnu, hcn, hmz, hmm, hib, hmr, hrise⟩ := id hV
  have b1 := hnm i
  have b2 := hnm j
  refine lv_aload_n hx hb dX4_isLater_0 rfl (lv_at hl 0 rfl) ?_
  refine lv_aload_n hx hb dX4_isLater_1 rfl (lv_at hl 0 rfl) ?_
  refine va_get (D := D) (ci := 4) (v := .ref (adr 35)) (C := RX4) (T := TX4) (N := 16) hx hb hG inG_X4 hown hK hP 30 (wl_at (by omega) hM0) rfl 6 (by decide) (hG _ g_499) (fun _ h9 => h9) rfl dX4_isLater_2 ?_
  refine lv_iload_n hx hb dX4_isLater_5 rfl (lv_at hl 1 rfl) ?_
  refine wn_iald (j := i) hx hb hK hP (by omega) hM5 (by omega) (by decide) dX4_isLater_6 ?_
  refine lv_aload_n hx hb dX4_isLater_7 rfl (lv_at hl 0 rfl) ?_
  refine va_get (D := D) (ci := 4) (v := .ref (adr 40)) (C := RX4) (T := TX4) (N := 16) hx hb hG inG_X4 hown hK hP 30 (wl_at (by omega) hM0) rfl 11 (by decide) (hG _ g_504) (fun _ h9 => h9) rfl dX4_isLater_8 ?_
  refine lv_iload_n hx hb dX4_isLater_11 rfl (lv_at hl 1 rfl) ?_
  refine wn_iald (j := i) hx hb hK hP (by omega) hM10 (by omega) (by decide) dX4_isLater_12 ?_
  refine wn_rV (rest := []) hx hb hml hown hG hN hP (cX4_realOf_r hn hV hR (t := c_nm S i / 512) (by omega) (nI (c_td S i % 2 ^ 20))) (cwV 2 hG (gV g_565 g_567 gp_X4_realOf g_5 g_568) rfl rfl rfl (by decide +kernel) ⟨Nat.le_of_ble_eq_true rfl, Nat.le_of_ble_eq_true rfl⟩) (by omega) hM0 rfl rfl hl.1 rfl (Nat.le_of_ble_eq_true rfl) dX4_isLater_13 ⟨Nat.le_of_ble_eq_true rfl, Nat.le_of_ble_eq_true rfl⟩ ?_
  refine lv_istore_n (lv' := [(3, .int (c_rt S i)), (0, .ref (adr 30)), (1, .int (nI i)), (2, .int (nI j))]) hx hb dX4_isLater_16 rfl hl (by decide) rfl (fun ls hl => ?_)
  refine lv_aload_n hx hb dX4_isLater_17 rfl (lv_at hl 1 rfl) ?_
  refine lv_aload_n hx hb dX4_isLater_18 rfl (lv_at hl 1 rfl) ?_
  refine va_get (D := D) (ci := 4) (v := .ref (adr 35)) (C := RX4) (T := TX4) (N := 16) hx hb hG inG_X4 hown hK hP 30 (wl_at (by omega) hM0) rfl 6 (by decide) (hG _ g_499) (fun _ h9 => h9) rfl dX4_isLater_19 ?_
  refine lv_iload_n hx hb dX4_isLater_22 rfl (lv_at hl 3 rfl) ?_
  refine wn_iald (j := j) hx hb hK hP (by omega) hM5 (by omega) (by decide) dX4_isLater_23 ?_
  refine lv_aload_n hx hb dX4_isLater_24 rfl (lv_at hl 1 rfl) ?_
  refine va_get (D := D) (ci := 4) (v := .ref (adr 40)) (C := RX4) (T := TX4) (N := 16) hx hb hG inG_X4 hown hK hP 30 (wl_at (by omega) hM0) rfl 11 (by decide) (hG _ g_504) (fun _ h9 => h9) rfl dX4_isLater_25 ?_
  refine lv_iload_n hx hb dX4_isLater_28 rfl (lv_at hl 3 rfl) ?_
  refine wn_iald (j := j) hx hb hK hP (by omega) hM10 (by omega) (by decide) dX4_isLater_29 ?_
  refine wn_rV (rest := []) hx hb hml hown hG hN hP (cX4_realOf_r hn hV hR (t := c_nm S j / 512) (by omega) (nI (c_td S j % 2 ^ 20))) (cwV 2 hG (gV g_565 g_567 gp_X4_realOf g_5 g_568) rfl rfl rfl (by decide +kernel) ⟨Nat.le_of_ble_eq_true rfl, Nat.le_of_ble_eq_true rfl⟩) (by omega) hM0 rfl rfl hl.1 rfl (Nat.le_of_ble_eq_true rfl) dX4_isLater_30 ⟨Nat.le_of_ble_eq_true rfl, Nat.le_of_ble_eq_true rfl⟩ ?_
  refine lv_istore (lv' := [(4, .int (c_rt S j)), (3, .int (c_rt S i)), (0, .ref (adr 30)), (1, .int (nI i)), (2, .int (nI j))]) hx hb dX4_isLater_33 hl (by decide) rfl (fun ls hl => ?_)
  refine lv_iload_n hx hb dX4_isLater_35 rfl (lv_at hl 1 rfl) ?_
  refine lv_iload hx hb dX4_isLater_36 (lv_at hl 0 rfl) ?_
  refine lv_icmp_eq (tgt := 53) hx hb dX4_isLater_38 (by decide) (fun c38 => ?_) (fun c38 => ?_)
  · refine lv_aload_n hx hb dX4_isLater_53 rfl (lv_at hl 2 rfl) ?_
    refine va_get (D := D) (ci := 4) (v := .ref (adr 36)) (C := RX4) (T := TX4) (N := 16) hx hb hG inG_X4 hown hK hP 30 (wl_at (by omega) hM0) rfl 7 (by decide) (hG _ g_500) (fun _ h9 => h9) rfl dX4_isLater_54 ?_
    refine lv_iload_n hx hb dX4_isLater_57 rfl (lv_at hl 3 rfl) ?_
    refine wn_iald (j := i) hx hb hK hP (by omega) hM6 (by omega) (by decide) dX4_isLater_58 ?_
    refine lv_aload_n hx hb dX4_isLater_59 rfl (lv_at hl 2 rfl) ?_
    refine va_get (D := D) (ci := 4) (v := .ref (adr 36)) (C := RX4) (T := TX4) (N := 16) hx hb hG inG_X4 hown hK hP 30 (wl_at (by omega) hM0) rfl 7 (by decide) (hG _ g_500) (fun _ h9 => h9) rfl dX4_isLater_60 ?_
    refine lv_iload_n hx hb dX4_isLater_63 rfl (lv_at hl 4 rfl) ?_
    refine wn_iald (j := j) hx hb hK hP (by omega) hM6 (by omega) (by decide) dX4_isLater_64 ?_
    refine lv_icmp_eq (tgt := 89) hx hb dX4_isLater_65 (by decide) (fun c65 => ?_) (fun c65 => ?_)
    · have n65 : (c_nm S i / 128 % 4) = (c_nm S j / 128 % 4) := (nI_eq (a := (c_nm S i / 128 % 4)) (b := (c_nm S j / 128 % 4)) (by omega) (by omega)).mp c65
      refine lv_aload_n hx hb dX4_isLater_89 rfl (lv_at hl 2 rfl) ?_
      refine va_get (D := D) (ci := 4) (v := .ref (adr 35)) (C := RX4) (T := TX4) (N := 16) hx hb hG inG_X4 hown hK hP 30 (wl_at (by omega) hM0) rfl 6 (by decide) (hG _ g_499) (fun _ h9 => h9) rfl dX4_isLater_90 ?_
      refine lv_iload_n hx hb dX4_isLater_93 rfl (lv_at hl 3 rfl) ?_
      refine wn_iald (j := i) hx hb hK hP (by omega) hM5 (by omega) (by decide) dX4_isLater_94 ?_
      refine lv_aload_n hx hb dX4_isLater_95 rfl (lv_at hl 2 rfl) ?_
      refine va_get (D := D) (ci := 4) (v := .ref (adr 35)) (C := RX4) (T := TX4) (N := 16) hx hb hG inG_X4 hown hK hP 30 (wl_at (by omega) hM0) rfl 6 (by decide) (hG _ g_499) (fun _ h9 => h9) rfl dX4_isLater_96 ?_
      refine lv_iload_n hx hb dX4_isLater_99 rfl (lv_at hl 4 rfl) ?_
      refine wn_iald (j := j) hx hb hK hP (by omega) hM5 (by omega) (by decide) dX4_isLater_100 ?_
      refine lv_icmp_eq (tgt := 127) hx hb dX4_isLater_101 (by decide) (fun c101 => ?_) (fun c101 => ?_)
      · have n101 : (c_nm S i / 512) = (c_nm S j / 512) := (nI_eq (a := (c_nm S i / 512)) (b := (c_nm S j / 512)) (by omega) (by omega)).mp c101
        refine lv_aload_n hx hb dX4_isLater_127 rfl (lv_at hl 2 rfl) ?_
        refine va_get (D := D) (ci := 4) (v := .ref (adr 37)) (C := RX4) (T := TX4) (N := 16) hx hb hG inG_X4 hown hK hP 30 (wl_at (by omega) hM0) rfl 8 (by decide) (hG _ g_501) (fun _ h9 => h9) rfl dX4_isLater_128 ?_
        refine lv_iload_n hx hb dX4_isLater_131 rfl (lv_at hl 3 rfl) ?_
        refine wn_iald (j := i) hx hb hK hP (by omega) hM7 (by omega) (by decide) dX4_isLater_132 ?_
        refine lv_aload_n hx hb dX4_isLater_133 rfl (lv_at hl 2 rfl) ?_
        refine va_get (D := D) (ci := 4) (v := .ref (adr 37)) (C := RX4) (T := TX4) (N := 16) hx hb hG inG_X4 hown hK hP 30 (wl_at (by omega) hM0) rfl 8 (by decide) (hG _ g_501) (fun _ h9 => h9) rfl dX4_isLater_134 ?_
        refine lv_iload_n hx hb dX4_isLater_137 rfl (lv_at hl 4 rfl) ?_
        refine wn_iald (j := j) hx hb hK hP (by omega) hM7 (by omega) (by decide) dX4_isLater_138 ?_
        refine lv_icmp_le (tgt := 146) hx hb dX4_isLater_139 (by decide) (fun c139 => ?_) (fun c139 => ?_)
        · have n139 : (c_nm S i % 128) ≤ (c_nm S j % 128) := (nI_leI (a := (c_nm S i % 128)) (b := (c_nm S j % 128)) (by omega) (by omega)).mp c139
          refine lv_iconst (v := 0) hx hb dX4_isLater_146 (by decide) ?_
          have h9 : (0 : Int32) = bI (c_ltr S i j) := by unfold c_ltr; rw [if_pos c38, decide_eq_false (show ¬ c_rk S j < c_rk S i by unfold c_rk; omega)]; rfl
          exact W.zret (v := 0) hx hb hr (by first | rfl | exact bI_nar _) (fun t ht _ => ⟨congrArg (fun z => Outcome.returned (some (Value.int z))) h9, ht⟩) (fun _ h => nomatch h) dX4_isLater_147
        · have n139 : ¬ (c_nm S i % 128) ≤ (c_nm S j % 128) := fun h7 => c139 ((nI_leI (a := (c_nm S i % 128)) (b := (c_nm S j % 128)) (by omega) (by omega)).mpr h7)
          refine lv_iconst (v := 1) hx hb dX4_isLater_142 (by decide) ?_
          refine lv_goto (tgt := 147) hx hb dX4_isLater_143 (by decide) ?_
          have h9 : (1 : Int32) = bI (c_ltr S i j) := by unfold c_ltr; rw [if_pos c38, decide_eq_true (show c_rk S j < c_rk S i by unfold c_rk; omega)]; rfl
          exact W.zret (v := 1) hx hb hr (by first | rfl | exact bI_nar _) (fun t ht _ => ⟨congrArg (fun z => Outcome.returned (some (Value.int z))) h9, ht⟩) (fun _ h => nomatch h) dX4_isLater_147
      · have n101 : ¬ (c_nm S i / 512) = (c_nm S j / 512) := fun h7 => c101 ((nI_eq (a := (c_nm S i / 512)) (b := (c_nm S j / 512)) (by omega) (by omega)).mpr h7)
        refine lv_aload_n hx hb dX4_isLater_104 rfl (lv_at hl 2 rfl) ?_
        refine va_get (D := D) (ci := 4) (v := .ref (adr 35)) (C := RX4) (T := TX4) (N := 16) hx hb hG inG_X4 hown hK hP 30 (wl_at (by omega) hM0) rfl 6 (by decide) (hG _ g_499) (fun _ h9 => h9) rfl dX4_isLater_105 ?_
        refine lv_iload_n hx hb dX4_isLater_108 rfl (lv_at hl 3 rfl) ?_
        refine wn_iald (j := i) hx hb hK hP (by omega) hM5 (by omega) (by decide) dX4_isLater_109 ?_
        refine lv_aload_n hx hb dX4_isLater_110 rfl (lv_at hl 2 rfl) ?_
        refine va_get (D := D) (ci := 4) (v := .ref (adr 35)) (C := RX4) (T := TX4) (N := 16) hx hb hG inG_X4 hown hK hP 30 (wl_at (by omega) hM0) rfl 6 (by decide) (hG _ g_499) (fun _ h9 => h9) rfl dX4_isLater_111 ?_
        refine lv_iload_n hx hb dX4_isLater_114 rfl (lv_at hl 4 rfl) ?_
        refine wn_iald (j := j) hx hb hK hP (by omega) hM5 (by omega) (by decide) dX4_isLater_115 ?_
        refine lv_icmp_le (tgt := 123) hx hb dX4_isLater_116 (by decide) (fun c116 => ?_) (fun c116 => ?_)
        · have n116 : (c_nm S i / 512) ≤ (c_nm S j / 512) := (nI_leI (a := (c_nm S i / 512)) (b := (c_nm S j / 512)) (by omega) (by omega)).mp c116
          refine lv_iconst (v := 0) hx hb dX4_isLater_123 (by decide) ?_
          refine lv_goto (tgt := 147) hx hb dX4_isLater_124 (by decide) ?_
          have h9 : (0 : Int32) = bI (c_ltr S i j) := by unfold c_ltr; rw [if_pos c38, decide_eq_false (show ¬ c_rk S j < c_rk S i by unfold c_rk; omega)]; rfl
          exact W.zret (v := 0) hx hb hr (by first | rfl | exact bI_nar _) (fun t ht _ => ⟨congrArg (fun z => Outcome.returned (some (Value.int z))) h9, ht⟩) (fun _ h => nomatch h) dX4_isLater_147
        · have n116 : ¬ (c_nm S i / 512) ≤ (c_nm S j / 512) := fun h7 => c116 ((nI_leI (a := (c_nm S i / 512)) (b := (c_nm S j / 512)) (by omega) (by omega)).mpr h7)
          refine lv_iconst (v := 1) hx hb dX4_isLater_119 (by decide) ?_
          refine lv_goto (tgt := 147) hx hb dX4_isLater_120 (by decide) ?_
          have h9 : (1 : Int32) = bI (c_ltr S i j) := by unfold c_ltr; rw [if_pos c38, decide_eq_true (show c_rk S j < c_rk S i by unfold c_rk; omega)]; rfl
          exact W.zret (v := 1) hx hb hr (by first | rfl | exact bI_nar _) (fun t ht _ => ⟨congrArg (fun z => Outcome.returned (some (Value.int z))) h9, ht⟩) (fun _ h => nomatch h) dX4_isLater_147
    · have n65 : ¬ (c_nm S i / 128 % 4) = (c_nm S j / 128 % 4) := fun h7 => c65 ((nI_eq (a := (c_nm S i / 128 % 4)) (b := (c_nm S j / 128 % 4)) (by omega) (by omega)).mpr h7)
      refine lv_aload_n hx hb dX4_isLater_68 rfl (lv_at hl 2 rfl) ?_
      refine va_get (D := D) (ci := 4) (v := .ref (adr 36)) (C := RX4) (T := TX4) (N := 16) hx hb hG inG_X4 hown hK hP 30 (wl_at (by omega) hM0) rfl 7 (by decide) (hG _ g_500) (fun _ h9 => h9) rfl dX4_isLater_69 ?_
      refine lv_iload_n hx hb dX4_isLater_72 rfl (lv_at hl 3 rfl) ?_
      refine wn_iald (j := i) hx hb hK hP (by omega) hM6 (by omega) (by decide) dX4_isLater_73 ?_
      refine lv_aload_n hx hb dX4_isLater_74 rfl (lv_at hl 2 rfl) ?_
      refine va_get (D := D) (ci := 4) (v := .ref (adr 36)) (C := RX4) (T := TX4) (N := 16) hx hb hG inG_X4 hown hK hP 30 (wl_at (by omega) hM0) rfl 7 (by decide) (hG _ g_500) (fun _ h9 => h9) rfl dX4_isLater_75 ?_
      refine lv_iload_n hx hb dX4_isLater_78 rfl (lv_at hl 4 rfl) ?_
      refine wn_iald (j := j) hx hb hK hP (by omega) hM6 (by omega) (by decide) dX4_isLater_79 ?_
      refine lv_icmp_le (tgt := 87) hx hb dX4_isLater_80 (by decide) (fun c80 => ?_) (fun c80 => ?_)
      · have n80 : (c_nm S i / 128 % 4) ≤ (c_nm S j / 128 % 4) := (nI_leI (a := (c_nm S i / 128 % 4)) (b := (c_nm S j / 128 % 4)) (by omega) (by omega)).mp c80
        refine lv_iconst (v := 0) hx hb dX4_isLater_87 (by decide) ?_
        have h9 : (0 : Int32) = bI (c_ltr S i j) := by unfold c_ltr; rw [if_pos c38, decide_eq_false (show ¬ c_rk S j < c_rk S i by unfold c_rk; omega)]; rfl
        exact W.zret (v := 0) hx hb hr (by first | rfl | exact bI_nar _) (fun t ht _ => ⟨congrArg (fun z => Outcome.returned (some (Value.int z))) h9, ht⟩) (fun _ h => nomatch h) dX4_isLater_88
      · have n80 : ¬ (c_nm S i / 128 % 4) ≤ (c_nm S j / 128 % 4) := fun h7 => c80 ((nI_leI (a := (c_nm S i / 128 % 4)) (b := (c_nm S j / 128 % 4)) (by omega) (by omega)).mpr h7)
        refine lv_iconst (v := 1) hx hb dX4_isLater_83 (by decide) ?_
        refine lv_goto (tgt := 88) hx hb dX4_isLater_84 (by decide) ?_
        have h9 : (1 : Int32) = bI (c_ltr S i j) := by unfold c_ltr; rw [if_pos c38, decide_eq_true (show c_rk S j < c_rk S i by unfold c_rk; omega)]; rfl
        exact W.zret (v := 1) hx hb hr (by first | rfl | exact bI_nar _) (fun t ht _ => ⟨congrArg (fun z => Outcome.returned (some (Value.int z))) h9, ht⟩) (fun _ h => nomatch h) dX4_isLater_88
  · refine lv_iload_n hx hb dX4_isLater_41 rfl (lv_at hl 1 rfl) ?_
    refine lv_iload hx hb dX4_isLater_42 (lv_at hl 0 rfl) ?_
    refine lv_icmp_le (tgt := 51) hx hb dX4_isLater_44 (by decide) (fun c44 => ?_) (fun c44 => ?_)
    · have c44 := Int32.not_lt.mpr c44
      refine lv_iconst (v := 0) hx hb dX4_isLater_51 (by decide) ?_
      have h9 : (0 : Int32) = bI (c_ltr S i j) := by unfold c_ltr; rw [if_neg c38, decide_eq_false (show ¬ c_rt S j < c_rt S i from c44)]; rfl
      exact W.zret (v := 0) hx hb hr (by first | rfl | exact bI_nar _) (fun t ht _ => ⟨congrArg (fun z => Outcome.returned (some (Value.int z))) h9, ht⟩) (fun _ h => nomatch h) dX4_isLater_52
    · have c44 := Int32.not_le.mp c44
      refine lv_iconst (v := 1) hx hb dX4_isLater_47 (by decide) ?_
      refine lv_goto (tgt := 52) hx hb dX4_isLater_48 (by decide) ?_
      have h9 : (1 : Int32) = bI (c_ltr S i j) := by unfold c_ltr; rw [if_neg c38, decide_eq_true (show c_rt S j < c_rt S i from c44)]; rfl
      exact W.zret (v := 1) hx hb hr (by first | rfl | exact bI_nar _) (fun t ht _ => ⟨congrArg (fun z => Outcome.returned (some (Value.int z))) h9, ht⟩) (fun _ h => nomatch h) dX4_isLater_52
