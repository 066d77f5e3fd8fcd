/-! METHODS THAT WRITE: what they leave, and how they are called -/
def wq (D : va_G) (lo : Nat) (adr : Nat → Nat) (n : Nat) (v : Option Value) (F : (Nat → va_E) → Prop) : Array Value → State → Outcome → State → Prop := fun _ st o t =>
  o = .returned v ∧ ∃ E2 : Nat → va_E, F E2 ∧ va_P D kcl (wl adr n E2) t.heap ∧ va_F (fun q => lo ≤ q) st t
section WDW
variable {p : Program} {l : Launch} {e : Env} {R : Room} {s : State} {m : MethodId} {args : Array Value} {below : List Frame} {meth : Method} {c : Code} {H : Heap} {locs : List Loc} {cells slots : Nat} {Q : State → Prop}
variable {cc : ByteArray} {pc : Nat} {ls : Array Slot} {rest : List Value} {D : va_G} {cA : Nat → ClassId} {H0 : Heap} {adr : Nat → Nat} {lo n : Nat} {E : Nat → va_E}
theorem wn_wV {C own : String} {y : MethodName} {bytes : ByteArray} {maxL nL na index k ci N : Nat} {T : u_T} {ret : Option FieldType} {wy : Cond} {rm : Room} {As : List Value} {v : Option Value} {F : (Nat → va_E) → Prop} {st0 : List Value} {fs : List Value}
    (hx : p.tables.exec = Jvm.exec) (hb : c.code = cc) (hml : c.maxLocals = nL) (hown : s.vm.findClass own = some m.cls) (hG : ∀ w ∈ lw_G, w.before args s = true) (hN : KN D (kty cA) s) (hP : va_P D kcl (wl adr n E) H) (hS : va_S (fun q => lo ≤ q) H0 H locs)
    (hM : Met l y (wy :: lw_G) rm (va_Pc (.ref (adr k) :: As) (wdU D (kty cA) adr n E)) (wq D lo adr n v F) 0 0 (fun q => lo ≤ q)) (cw : CallW R s args own C index y bytes maxL ret (wy :: lw_G) rm 0 0 na)
    (hk : k < n) (hE : E k = .inr (ci, fs)) (hc : kcl[ci]? = some (C, T, N)) (hn : As.length = na) (hsize : ls.size = nL) (hstack : st0 = As.reverse ++ .ref (adr k) :: rest) (hW : (rest.map fun v => v.category).sum ≤ 8) (hdg : decode cc pc = .ok (.invokevirtual index, 3)) (hf : cells ≤ R.cells ∧ slots ≤ R.slots)
    (kk : ∀ (E2 : Nat → va_E) (H1 : Heap) (locs1 : List Loc), F E2 → va_P D kcl (wl adr n E2) H1 → va_S (fun q => lo ≤ q) H0 H1 locs1 → W p l e R s m args below meth c H1 locs1 cells slots Q (F0 m (pc + 3) ls (v.toList ++ rest))) : W p l e R s m args below meth c H locs cells slots Q (F0 m pc ls st0) := by
  subst hstack
  intro T0 hT X
  obtain ⟨v', st₀, t, T', L, h0, X', hL, e1, e2, ⟨hv, E2, hF, hP2, hz, hk2⟩, st⟩ := va_runV (p := p) (l := l) (e := e) (R := R) (s := s) (m := m) (args := args) (below := below) (meth := meth) (c := c) (H := H) (locs := locs) (cells := cells) (slots := slots) (g := F0 m pc ls (As.reverse ++ .ref (adr k) :: rest)) (As := As) (rest := rest) (b := adr k) ⟨hx, hb, hml, hown, hG⟩ hM cw ⟨wdU_blind, wd_recv hN hP hk hE hc, wdU_pre hN hP⟩ rfl hn hsize rfl (lv_room hW) hdg hf T0 hT X
  cases hv
  rw [h0] at hz hk2
  obtain ⟨t2, a1, b1⟩ := kk E2 T'.heap (locs ++ L) hF (by rw [e1]; exact hP2)
    ⟨Nat.le_trans hS.1 (by rw [e1]; exact hz), fun q h1 h2 => by rw [e1, hk2 q (Nat.lt_of_lt_of_le h1 hS.1) h2]; exact hS.2.1 q h1 h2, fun q hq => by
      rcases List.mem_append.mp hq with h | h
      · exact hS.2.2 q h
      · exact hL q h⟩ T' rfl X'
  exact ⟨t2, st t2 a1, b1⟩
end WDW
theorem upd_fun {α : Type} (g : Int32 → α) (f : Nat → Int32) (k : Nat) (x : Int32) (j : Nat) : g (upd f k x j) = if j = k then g x else g (f j) := by
  unfold upd; split <;> rfl
def upN (f : Nat → Nat) (k x : Nat) : Nat → Nat := fun j => if j = k then x else f j
def upZ (f : Nat → Bool) (k : Nat) (x : Bool) : Nat → Bool := fun j => if j = k then x else f j
theorem upd_nI (f : Nat → Nat) (k x : Nat) : upd (fun j => nI (f j)) k (nI x) = fun j => nI (upN f k x j) := by
  funext j; unfold upd upN; split <;> rfl
theorem upd_bI (f : Nat → Bool) (k : Nat) (x : Bool) : upd (fun j => bI (f j)) k (bI x) = fun j => bI (upZ f k x j) := by
  funext j; unfold upd upZ; split <;> rfl
