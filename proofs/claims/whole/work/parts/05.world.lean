/-! MY WORLD: n roles; role k lies at the address adr k and holds E k -/
def wl (adr : Nat → Nat) (n : Nat) (E : Nat → va_E) : va_W := (List.range n).map (fun k => (adr k, E k))
def wd_ad (lo n : Nat) (adr : Nat → Nat) : Prop := (∀ i j, i < n → j < n → adr i = adr j → i = j) ∧ ∀ k, k < n → lo ≤ adr k
theorem wl_len {adr : Nat → Nat} {n : Nat} {E : Nat → va_E} : (wl adr n E).length = n := by simp [wl]
theorem wl_get {adr : Nat → Nat} {n : Nat} {E : Nat → va_E} {k : Nat} (h : k < n) : (wl adr n E)[k]? = some (adr k, E k) := by
  simp [wl, h]
theorem wl_at {adr : Nat → Nat} {n : Nat} {E : Nat → va_E} {k : Nat} {e : va_E} (h : k < n) (he : E k = e) : (wl adr n E)[k]? = some (adr k, e) := by rw [wl_get h, he]
theorem wl_none {adr : Nat → Nat} {n : Nat} {E : Nat → va_E} {k : Nat} (h : ¬ k < n) : (wl adr n E)[k]? = none := by
  simp [wl, h]
theorem wl_inv {adr : Nat → Nat} {n : Nat} {E : Nat → va_E} {k : Nat} {q : Nat × va_E} (h : (wl adr n E)[k]? = some q) : k < n ∧ q = (adr k, E k) := by
  by_cases hk : k < n
  · rw [wl_get hk] at h
    exact ⟨hk, (Option.some.inj h).symm⟩
  · rw [wl_none hk] at h
    cases h
theorem wl_set {adr : Nat → Nat} {n : Nat} {E : Nat → va_E} {k : Nat} {e : va_E} (h : k < n) : (wl adr n E).set k (adr k, e) = wl adr n (va_up E k e) := by
  refine List.ext_getElem? fun j => ?_
  rw [List.getElem?_set]
  by_cases hj : k = j
  · subst hj
    rw [if_pos rfl, if_pos (by rw [wl_len]; exact h), wl_get h, va_up_self]
  · rw [if_neg hj]
    by_cases hn : j < n
    · rw [wl_get hn, wl_get hn, va_up_ne _ _ (fun q => hj q.symm)]
    · rw [wl_none hn, wl_none hn]
theorem wl_D {lo n : Nat} {adr : Nat → Nat} {E : Nat → va_E} (h : wd_ad lo n adr) : va_D (fun q => lo ≤ q) (wl adr n E) := by
  refine ⟨fun i j x y hi hj hxy => ?_, fun k q hk => ?_⟩
  · obtain ⟨h1, rfl⟩ := wl_inv hi
    obtain ⟨h2, rfl⟩ := wl_inv hj
    exact h.1 i j h1 h2 hxy
  · obtain ⟨h1, rfl⟩ := wl_inv hk
    exact h.2 k h1
/-- what a method that writes leaves: the world E', nothing changed below lo -/
def wdQ (D : va_G) (cl : List vw_C) (lo : Nat) (adr : Nat → Nat) (n : Nat) (E : Nat → va_E) (st t : State) : Prop := va_P D cl (wl adr n E) t.heap ∧ va_F (fun q => lo ≤ q) st t
section WDR
variable {p : Program} {l : Launch} {e : Env} {R : Room} {s : State} {m : MethodId} {args : Array Value} {below : List Frame} {meth : Method} {c : Code} {H : Heap} {locs : List Loc} {cells slots : Nat} {Q : State → Prop}
variable {cc : ByteArray} {pc : Nat} {ls : Array Slot} {rest : List Value} {D : va_G} {cl : List vw_C} {tys : List (ClassId × FieldType)} {H0 : Heap} {adr : Nat → Nat} {lo n : Nat} {E : Nat → va_E}
theorem wd_put (hexec : p.tables.exec = Jvm.exec) (hb : c.code = cc) {own ref C : String} {T : u_T} {N ci index : Nat} {Ts : List Cond} (hts : ∀ w ∈ Ts, w.before args s = true) (hin : ∀ w ∈ u_ws C T N, w ∈ Ts) (ty0 : Nat → FieldType) (hty : ∀ k, k < N → parseFieldDescriptor (T k).2.2.1 = some (ty0 k)) (hnm : ∀ a, a < N → ∀ b, b < N → a ≠ b → (T a).2.1 ≠ (T b).2.1) (hown : s.vm.findClass own = some m.cls) (hK : va_K D cl tys s)
    (hAd : wd_ad lo n adr) (hP : va_P D cl (wl adr n E) H) (hS : va_S (fun q => lo ≤ q) H0 H locs) {k0 : Nat} (hk0 : k0 < n) {fs : List Value} (hE : E k0 = .inr (ci, fs)) (hc : cl[ci]? = some (C, T, N)) (k : Nat) (hk : k < N) (hlink : (Cond.fieldLink own index ref (T k).2.1 (T k).2.2.1).before args s = true) (hsame : ∀ x, s.fieldFound? (T k).1 (T k).2.1 (T k).2.2.1 = some x → s.fieldFound? ref (T k).2.1 (T k).2.2.1 = some x) (hfin : (T k).2.2.2 = false) {ty : FieldType} {v : Value} (hd : parseFieldDescriptor (T k).2.2.1 = some ty) (hn : narrow ty v = v) (hfit : fits ty v = true) (hl : k < fs.length)
    (hdg : decode cc pc = .ok (.putfield index, 3)) (kk : ∀ (H1 : Heap) (locs1 : List Loc), va_P D cl (wl adr n (va_up E k0 (.inr (ci, fs.set k v)))) H1 → va_S (fun q => lo ≤ q) H0 H1 locs1 → W p l e R s m args below meth c H1 locs1 cells slots Q (F0 m (pc + 3) ls rest)) : W p l e R s m args below meth c H locs cells slots Q (F0 m pc ls (v :: .ref (adr k0) :: rest)) :=
  va_put hexec hb hts hin ty0 hty hnm hown hK hP (wl_D hAd) hS k0 (wl_at hk0 hE) hc k hk hlink hsame hfin hd hn hfit hl hdg (fun H1 locs1 hP1 _ hS1 => kk H1 locs1 (by rw [wl_set hk0] at hP1; exact hP1) hS1)
theorem wd_iast (hexec : p.tables.exec = Jvm.exec) (hb : c.code = cc) (hK : va_K D cl tys s) (hAd : wd_ad lo n adr) (hP : va_P D cl (wl adr n E) H) (hS : va_S (fun q => lo ≤ q) H0 H locs) (t0 : Nat) {k0 : Nat} (hk0 : k0 < n) {cA : ClassId} {N : Nat} {f : Nat → Int32} (hE : E k0 = .inl (cA, N, .inl f)) (ht : tys[t0]? = some (cA, .int)) {i : Int32} {x : Int32} (hin : vp_in i N) (hdg : decode cc pc = .ok (.iastore, 1))
    (kk : ∀ (H1 : Heap) (locs1 : List Loc), va_P D cl (wl adr n (va_up E k0 (.inl (cA, N, .inl (upd f i.toNatClampNeg x))))) H1 → va_S (fun q => lo ≤ q) H0 H1 locs1 → W p l e R s m args below meth c H1 locs1 cells slots Q (F0 m (pc + 1) ls rest)) : W p l e R s m args below meth c H locs cells slots Q (F0 m pc ls (.int x :: .int i :: .ref (adr k0) :: rest)) :=
  va_iast hexec hb hK hP (wl_D hAd) hS k0 t0 (wl_at hk0 hE) ht hin hdg (fun H1 locs1 hP1 _ hS1 => kk H1 locs1 (by rw [wl_set hk0] at hP1; exact hP1) hS1)
theorem wd_zast (hexec : p.tables.exec = Jvm.exec) (hb : c.code = cc) (hK : va_K D cl tys s) (hAd : wd_ad lo n adr) (hP : va_P D cl (wl adr n E) H) (hS : va_S (fun q => lo ≤ q) H0 H locs) (t0 : Nat) {k0 : Nat} (hk0 : k0 < n) {cA : ClassId} {N : Nat} {f : Nat → Int32} (hE : E k0 = .inl (cA, N, .inl f)) (ht : tys[t0]? = some (cA, .boolean)) {i : Int32} {x : Int32} (hin : vp_in i N) (hdg : decode cc pc = .ok (.bastore, 1))
    (kk : ∀ (H1 : Heap) (locs1 : List Loc), va_P D cl (wl adr n (va_up E k0 (.inl (cA, N, .inl (upd f i.toNatClampNeg (vp_nar .boolean x)))))) H1 → va_S (fun q => lo ≤ q) H0 H1 locs1 → W p l e R s m args below meth c H1 locs1 cells slots Q (F0 m (pc + 1) ls rest)) : W p l e R s m args below meth c H locs cells slots Q (F0 m pc ls (.int x :: .int i :: .ref (adr k0) :: rest)) :=
  va_zast hexec hb hK hP (wl_D hAd) hS k0 t0 (wl_at hk0 hE) ht hin hdg (fun H1 locs1 hP1 _ hS1 => kk H1 locs1 (by rw [wl_set hk0] at hP1; exact hP1) hS1)
end WDR
