/-! THE CLAIM OUT OF ONE WALK OF THE LAW'S BODY. Your part is whole_start (and what it stands on); all else here is the same for every law, but numbers. -/
def R_law : String := "TannedMenLaw"
def lw_P (b : Addr) (xs : List Int32) (args : Array Value) (s : State) : Prop := args = #[.ref b] ∧ s.IntsAt b xs ∧ xs.length ≤ 320 ∧ (Jvm.Cond.and given_1 narrow_1).before args s = true
def lw_Q (_ : Array Value) (s : State) (o : Outcome) (t : State) : Prop := o = .returned (some (.int 1)) ∧ Framed s o t [] 600000 7302250
def lw_Z (below : List Frame) (a : Array Value) (s : State) : State → Prop := fun t => ∃ o, t.status = .running ∧ Ended t below o ∧ lw_Q a s o t
/-- the law's own end, with 1 on the stack, nothing written that was there before, its room as the claim has it -/
theorem lw_ret {p : Program} {l : Launch} {e : Env} {s : State} {m : MethodId} {below : List Frame} {meth : Method} {c : Code} {b : Nat} (hx : p.tables.exec = Jvm.exec) (hb : c.code = code) (hr : meth.sig.returnType = ret) (hlocks : meth.locks = false) {pc : Nat} {H : Heap} {ls : Array Slot} (hdg : decode code pc = .ok (.ireturn, 1)) : W p l e room_1 s m #[Value.ref b] below meth c H [] 600000 7302250 (lw_Z below #[Value.ref b] s) (F0 m pc ls [.int 1]) := by
  intro T hT X
  obtain ⟨fs, hret, hrun, hended, hW, hframe⟩ := X.leave (v := some (.int 1)) (hlocks := hlocks) (fun h => by rw [hr] at h; cases h)
  have hmeth' : T.vm.method? m = some meth := X.method'
  refine ⟨T.setFrames fs, ?_, .returned (some (.int 1)), hrun, hended, rfl, ⟨_, rfl⟩, hW, hframe⟩
  jvm_step X.here [X.here.top, hx, hb, hdg, hmeth', hr, ret, narrow_b1]
  (try refine ⟨rfl, ?_⟩); (try refine ⟨rfl, ?_⟩)
  first | (intro acts; rw [hret _ acts rfl rfl rfl]) | rw [hret _ _ rfl rfl rfl]
  exact Steps.refl _
/-- what holds at the law's entry: the machine, the code, the tables' words (any of lw_tbl by 'hts w (by decide +kernel)'), the script of L ints xs at the cell b, what the Statement gives of the start (any of its parts by flat_of_before) -/
def lw_At (p : Program) (s : State) (m : MethodId) (meth : Method) (c : Code) (b L : Nat) (xs : Nat → Int32) : Prop :=
  p.tables.exec = Jvm.exec ∧ c.code = code ∧ meth.sig.returnType = ret ∧ c.maxLocals = 4 ∧ s.vm.findClass R_law = some m.cls ∧ (∀ w ∈ lw_tbl, w.before #[Value.ref b] s = true) ∧ va_X b L xs s s.heap ∧ b < s.heap.size ∧ meth.locks = false ∧ (Jvm.Cond.and given_1 narrow_1).before #[Value.ref b] s = true

def Sx (k : KX) (b L : Nat) (xs : Nat → Int32) : Prop := match k with
  | (p, l, e, R, s, m, args, below, meth, c, nL, kc, ks, Qf, A) => va_X b L xs s s.heap ∧ b < s.heap.size ∧ ¬ A b
def Rlw (k : KX) (b : Nat) : Prop := match k with
  | (p, l, e, R, s, m, args, below, meth, c, nL, kc, ks, Qf, A) => R = room_1 ∧ args = #[Value.ref b] ∧ c.code = code ∧ meth.sig.returnType = ret ∧ meth.locks = false ∧ kc = 600000 ∧ ks = 7302250 ∧ A = (fun q => s.heap.size ≤ q) ∧ Qf = fun _ _ => lw_Z below #[Value.ref b] s
section GL
variable {w : WX} {adr : Nat → Nat → Nat} {k : KX} {cc : ByteArray} {own : String} {nL fr lo : Nat} {pc n : Nat} {lv : List (Nat × Value)} {st : List Value} {S : St}
theorem ge_sld {F : Op} (C : Cx w adr k cc own nL fr lo) {b L : Nat} {xs : Nat → Int32} (X0 : Sx k b L xs) {i : Int32} (hd : decode cc pc = .ok (.iaload, 1)) (hn : pc + 1 = n) (kk : Ge w adr k n lv (.int (xs i.toNatClampNeg) :: st) S F) : Ge w adr k pc lv (.int i :: .ref b :: st) S (ck i L F) := by
  unfold ck
  refine ge_if (fun _ => ge_none) (fun h => ?_)
  obtain ⟨p, l, e, R, s, m, args, below, meth, c, nL, kc, ks, Qf, A⟩ := k
  obtain ⟨hx, hb, hml, hnl, hown, hts, hK, hj, hA, hN, hkc, hks, hfr, hlo⟩ := C
  obtain ⟨hX, hbl, hbA⟩ := X0
  subst hn
  intro r S2 hF H locs ls hP hS hl
  exact va_sld hx hb hX hbl hbA hS (vp_ck h) hd (kk r S2 hF H locs ls hP hS hl)
theorem ge_slen {F : Op} (C : Cx w adr k cc own nL fr lo) {b L : Nat} {xs : Nat → Int32} (X0 : Sx k b L xs) (hd : decode cc pc = .ok (.arraylength, 1)) (hn : pc + 1 = n) (kk : Ge w adr k n lv (.int (nI L) :: st) S F) : Ge w adr k pc lv (.ref b :: st) S F := by
  obtain ⟨p, l, e, R, s, m, args, below, meth, c, nL, kc, ks, Qf, A⟩ := k
  obtain ⟨hx, hb, hml, hnl, hown, hts, hK, hj, hA, hN, hkc, hks, hfr, hlo⟩ := C
  obtain ⟨hX, hbl, hbA⟩ := X0
  subst hn
  intro r S2 hF H locs ls hP hS hl
  exact va_slen hx hb hX hbl hbA hS hd (kk r S2 hF H locs ls hP hS hl)
theorem ge_lret (C : Cx w adr k cc own nL fr lo) {b : Nat} (Rl : Rlw k b) (hd : decode code pc = .ok (.ireturn, 1)) : Ge w adr k pc lv [.int 1] S (some ((1 : Int32), S)) := by
  obtain ⟨p, l, e, R, s, m, args, below, meth, c, nL, kc, ks, Qf, A⟩ := k
  obtain ⟨hx, hb, hml, hnl, hown, hts, hK, hj, hA, hN, hkc, hks, hfr, hlo⟩ := C
  obtain ⟨rfl, rfl, hcode, hr, hlocks, rfl, rfl, rfl, rfl⟩ := Rl
  intro r S2 hF H locs ls hP hS hl
  refine va_forget (fun q hq => hS.2.2 q hq) ?_
  exact lw_ret hx hcode hr hlocks hd
end GL
