/-- an answer that is a boolean -/
def zb (v : Int32) (F : Op) : Op := if v = 0 ∨ v = 1 then F else none
theorem zb_nar {v : Int32} (h : v = 0 ∨ v = 1) : narrow .boolean (.int v) = .int v := by
  rcases h with rfl | rfl <;> decide
theorem ge_zretb {w : WX} {adr : Nat → Nat → Nat} {k : KX} {cc : ByteArray} {own : String} {nL fr lo : Nat} {pc : Nat} {lv : List (Nat × Value)} {S : St} (C : Cx w adr k cc own nL fr lo) (Rr : Ri w adr k .boolean) {v : Int32} (hd : decode cc pc = .ok (.ireturn, 1)) : Ge w adr k pc lv [.int v] S (zb v (some (v, S))) := by
  unfold zb
  exact ge_if (fun h => ge_zret C Rr (zb_nar h) hd) (fun _ => ge_none)
