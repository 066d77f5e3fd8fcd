/-! WHAT THE PUBLIC METHODS ANSWER: k_.. 0 or which exception (as the law counts them), r_.. the answer -/
def k_real (_S : CS) (t x : Int32) : Nat := if inN t 5 then (if inN x 1000001 then 0 else 2) else 1
def r_real (S : CS) (t x : Int32) : Int32 := rt (c_mk S t.toNatClampNeg) (c_ow S t.toNatClampNeg) (c_re S t.toNatClampNeg) x
def k_many (_S : CS) (d w : Int32) : Nat := if inN d 3 && inN w 3 then 0 else 1
def r_many (S : CS) (d w : Int32) : Int32 := if w = 0 then c_sn S d.toNatClampNeg else if w = 1 then c_mt S d.toNatClampNeg else c_wt S d.toNatClampNeg
def k_same (_S : CS) (d o : Int32) : Nat := if inN d 3 && inN o 3 then 0 else 1
def r_same (S : CS) (d o : Int32) : Bool := alB (fun i => c_see S d.toNatClampNeg i == c_see S o.toNatClampNeg i) (c_ct S)
def k_conf (_S : CS) (d : Int32) : Nat := if inN d 3 then 0 else 1
def r_conf (S : CS) (d : Int32) : Int32 := nI (ctB (fun i => c_see S d.toNatClampNeg i && c_beg S d.toNatClampNeg i) (c_ct S))
def k_last (S : CS) (d k w : Int32) : Nat := if inN d 3 && inN k 8 && inN w 5 then (if c_lst S d.toNatClampNeg k.toNatClampNeg (c_mt S d.toNatClampNeg) = none then 2 else 0) else 1
def a_last (S : CS) (i : Nat) (w : Int32) : Int32 := if w = 0 then c_vl S i else if w = 1 then c_rt S i else if w = 2 then nI (c_nm S i / 512) else if w = 3 then nI (c_nm S i % 128) else nI (c_nm S i / 128 % 4)
def r_last (S : CS) (d k w : Int32) : Int32 := a_last S ((c_lst S d.toNatClampNeg k.toNatClampNeg (c_mt S d.toNatClampNeg)).getD 0) w
def k_known (S : CS) (d k m : Int32) : Nat := if inN d 3 && inN k 8 then (if decide (0 ≤ m) && decide (m ≤ c_mt S d.toNatClampNeg) then (if c_lst S d.toNatClampNeg k.toNatClampNeg m = none then 2 else 0) else 3) else 1
def r_known (S : CS) (d k m : Int32) : Int32 := c_vl S ((c_lst S d.toNatClampNeg k.toNatClampNeg m).getD 0)
theorem lst_lt {S : CS} {d k : Nat} {m : Int32} {z : Nat} (h : c_lst S d k m = some z) : z < c_ct S := lsB_lt h
theorem oI_ne {o : Option Nat} (h : ¬ oI o = -1) : ∃ z, o = some z := by
  cases o with
  | none => exact absurd rfl h
  | some z => exact ⟨z, rfl⟩
