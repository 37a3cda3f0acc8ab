/-! worlds in the making: the cells from an address on, as a list -/
def wl : Nat → List va_E → va_W
  | _, [] => []
  | a, e :: t => (a, e) :: wl (a + 1) t
theorem wl_at : ∀ (a : Nat) (L : List va_E) (i : Nat), (wl a L)[i]? = (L[i]?).map (fun e => (a + i, e))
  | a, [], i => rfl
  | a, e :: t, 0 => rfl
  | a, e :: t, i + 1 => by
    show (wl (a + 1) t)[i]? = (t[i]?).map (fun e => (a + (i + 1), e))
    rw [wl_at (a + 1) t i, Nat.add_right_comm, Nat.add_assoc]
theorem wl_app : ∀ (a : Nat) (x y : List va_E), wl a (x ++ y) = wl a x ++ wl (a + x.length) y
  | a, [], y => rfl
  | a, e :: t, y => by
    show (a, e) :: wl (a + 1) (t ++ y) = (a, e) :: (wl (a + 1) t ++ wl (a + (t.length + 1)) y)
    rw [wl_app (a + 1) t y, Nat.add_right_comm, Nat.add_assoc]
theorem wl_set : ∀ (a : Nat) (L : List va_E) (i : Nat) (e : va_E), (wl a L).set i (a + i, e) = wl a (L.set i e)
  | a, [], i, e => rfl
  | a, x :: t, 0, e => rfl
  | a, x :: t, i + 1, e => by
    show (a, x) :: (wl (a + 1) t).set i (a + (i + 1), e) = (a, x) :: wl (a + 1) (t.set i e)
    rw [← wl_set (a + 1) t i e, Nat.add_right_comm, Nat.add_assoc]
theorem wl_get {a : Nat} {L : List va_E} {i : Nat} {e : va_E} (h : L[i]? = some e) : (wl a L)[i]? = some (a + i, e) := by
  rw [wl_at, h]; rfl
theorem wl_of {a : Nat} {L : List va_E} {i : Nat} {q : Nat × va_E} (h : (wl a L)[i]? = some q) : ∃ e, L[i]? = some e ∧ q = (a + i, e) := by
  rw [wl_at] at h
  cases hL : L[i]? with
  | none => rw [hL] at h; cases h
  | some e => rw [hL] at h; exact ⟨e, rfl, (Option.some.inj h).symm⟩
theorem wl_D {A : Nat → Prop} (a : Nat) (L : List va_E) (hA : ∀ q, a ≤ q → A q) : va_D A (wl a L) := by
  refine ⟨fun i j p q h1 h2 h3 => ?_, fun i q h => ?_⟩
  · obtain ⟨e1, -, rfl⟩ := wl_of h1
    obtain ⟨e2, -, rfl⟩ := wl_of h2
    have h3 : a + i = a + j := h3
    omega
  · obtain ⟨e1, -, rfl⟩ := wl_of h
    exact hA _ (Nat.le_add_right _ _)
def Ao2 (U : State) : Prop := (Cond.arrayOver (.array .int)).before #[] U = true
theorem Ao2.moved {u U : State} (hvm : u.vm.Alike U.vm) (h : Ao2 u) : Ao2 U := by
  obtain ⟨comp, c, k, h1, h2, h3, h4, h5⟩ := arrayOverA_spec h
  obtain ⟨k2, hk2, he⟩ := hvm.2.2 _ _ h3
  have hi : (U.vm.classes.findIdx? fun (x : Class) => match x.kind with | .array component _ => component == comp | _ => false) = some c := by
    have hb : U.vm.bare = u.vm.bare := by first | exact hvm.bare_eq | exact hvm.bare_eq.symm
    have e1 := va_idx_bare U.vm comp
    rw [hb] at e1
    exact e1.symm.trans ((va_idx_bare u.vm comp).trans h2)
  have hkind : k2.kind = .array comp (.array .int) := by rw [he]; exact h4
  have f1 : U.vm.findClass (FieldType.array .int).toString = some comp := by rw [hvm.findClass]; exact h1
  have f2 : U.vm.findClass ("[" ++ (FieldType.array .int).toString) = some c := by rw [hvm.findClass]; exact h5
  unfold Ao2 Cond.before Cond.holds
  simp only [Cond.value]
  rw [f1, Option.bind_some]
  refine (congrArg (fun o : Option Nat => (o.bind (fun c => (U.vm.classes[c]?).map fun (k : Class) => match k.kind with | .array _ ty => decide (ty = FieldType.array .int) && decide (U.vm.findClass ("[" ++ (FieldType.array .int).toString) = some c) | _ => false) == some true)) hi).trans ?_
  simp [hk2, hkind, f2]
/-- the nest's links -/
def nlk : List (String × Nat × MethodName) := [(RX10, 11, yX8_init), (RX10, 18, yX6_init), (RX7, 21, yX3_init), (RX10, 37, yX4_init), (RX10, 44, yX1_init), (RX10, 51, yX2_init), (RX10, 58, yX0_init), (RX10, 65, yX9_init), (RX9, 11, yX3_init), (RX10, 72, yX5_init), (RX8, 102, yX10_isOutside)]
def Kc (w : WX) (U : State) : Prop := va_K w.1 vwCl (tyl w.2) U ∧ va_AO "TannedMen$Man" U ∧ Ao2 U ∧ ∀ q ∈ nlk, va_Nw (.methodLinkNest q.1 q.2.1 q.2.2 RX10) U
theorem Kc.warm {w : WX} {s U : State} (hW : s.WarmedH U.vm) (h : Kc w s) : Kc w U := ⟨va_K.moved hW.alike h.1, h.2.1.moved hW.alike, h.2.2.1.moved hW.alike, fun q hq => va_Nw.warmM hW (h.2.2.2 q hq)⟩
theorem Kc.same {w : WX} {s U : State} (hv : s.vm = U.vm) (h : Kc w s) : Kc w U := by
  have ha : s.vm.Alike U.vm := by rw [hv]; exact Vm.Alike.refl _
  exact ⟨va_K.moved ha h.1, h.2.1.moved ha, h.2.2.1.moved ha, fun q hq => va_Nw.same rfl hv (h.2.2.2 q hq)⟩
abbrev KY : Type := Program × Launch × Env × Room × State × MethodId × Array Value × List Frame × Method × Code × Nat × (State → Prop)
def Gc (w : WX) (a : Nat) (k : KY) (pc : Nat) (lv : List (Nat × Value)) (st : List Value) (L : List va_E) (kc ks : Nat) : Prop := match k with
  | (p, l, e, R, s, m, args, below, meth, c, nL, Q) => ∀ (H : Heap) (locs : List Loc) (ls : Array Slot), va_P w.1 vwCl (wl a L) H → H.size = a + L.length → va_S (fun q => a ≤ q) s.heap H locs → lv_has ls nL lv → W p l e R s m args below meth c H locs kc ks Q (F0 m pc ls st)
def Cc (w : WX) (a : Nat) (k : KY) (cc : ByteArray) (own : String) (n fr lo rc rs : Nat) : Prop := match k with
  | (p, l, e, R, s, m, args, below, meth, c, nL, Q) => p.tables.exec = Jvm.exec ∧ c.code = cc ∧ c.maxLocals = nL ∧ nL = n ∧ s.vm.findClass own = some m.cls ∧ (∀ x ∈ tz, x.before args s = true) ∧ Kc w s ∧ rc ≤ R.cells ∧ rs ≤ R.slots ∧ fr ≤ R.frames ∧ lo ≤ R.locals ∧ a ≤ s.heap.size
def Ci (k : KY) : Prop := match k with
  | (p, l, e, R, s, m, args, below, meth, c, nL, Q) => meth.name = "<init>"
section GC
variable {w : WX} {a : Nat} {k : KY} {cc : ByteArray} {own : String} {nL fr lo rc rs : Nat} {pc n : Nat} {lv : List (Nat × Value)} {st : List Value} {L : List va_E} {kc ks : Nat}
theorem gc_iconst (C : Cc w a k cc own nL fr lo rc rs) {q : Int} {v : Int32} (hd : decode cc pc = .ok (.iconst q, 1)) (hv : Int32.ofInt q = v) (hn : pc + 1 = n) (kk : Gc w a k n lv (.int v :: st) L kc ks) : Gc w a k pc lv st L kc ks := by
  obtain ⟨p, l, e, R, s, m, args, below, meth, c, nL, Q⟩ := k
  obtain ⟨hx, hb, hml, hnl, hown, hts, hK, hrc, hrs, hfr, hlo, hsa⟩ := C
  subst hn
  intro H locs ls hP hz hS hl
  exact lv_iconst hx hb hd hv (kk H locs ls hP hz hS hl)
theorem gc_bipush (C : Cc w a k cc own nL fr lo rc rs) {q : Int} {v : Int32} (hd : decode cc pc = .ok (.bipush q, 2)) (hv : (Int8.ofInt q).toInt32 = v) (hn : pc + 2 = n) (kk : Gc w a k n lv (.int v :: st) L kc ks) : Gc w a k pc lv st L kc ks := by
  obtain ⟨p, l, e, R, s, m, args, below, meth, c, nL, Q⟩ := k
  obtain ⟨hx, hb, hml, hnl, hown, hts, hK, hrc, hrs, hfr, hlo, hsa⟩ := C
  subst hn
  intro H locs ls hP hz hS hl
  exact lv_bipush hx hb hd hv (kk H locs ls hP hz hS hl)
theorem gc_sipush (C : Cc w a k cc own nL fr lo rc rs) {q : Int} {v : Int32} (hd : decode cc pc = .ok (.sipush q, 3)) (hv : (Int16.ofInt q).toInt32 = v) (hn : pc + 3 = n) (kk : Gc w a k n lv (.int v :: st) L kc ks) : Gc w a k pc lv st L kc ks := by
  obtain ⟨p, l, e, R, s, m, args, below, meth, c, nL, Q⟩ := k
  obtain ⟨hx, hb, hml, hnl, hown, hts, hK, hrc, hrs, hfr, hlo, hsa⟩ := C
  subst hn
  intro H locs ls hP hz hS hl
  exact lv_sipush hx hb hd hv (kk H locs ls hP hz hS hl)
theorem gc_aload_n (C : Cc w a k cc own nL fr lo rc rs) {q : Fin 4} {i : Nat} {x : Nat} (j : Nat) (hl : lv[j]? = some (i, .ref x)) (hd : decode cc pc = .ok (.aload_n q, 1)) (hi : (q : Nat) = i) (hn : pc + 1 = n) (kk : Gc w a k n lv (.ref x :: st) L kc ks) : Gc w a k pc lv st L kc ks := by
  obtain ⟨p, l, e, R, s, m, args, below, meth, c, nL, Q⟩ := k
  obtain ⟨hx, hb, hml, hnl, hown, hts, hK, hrc, hrs, hfr, hlo, hsa⟩ := C
  subst hn
  intro H locs ls hP hz hS hl2
  exact lv_aload_n hx hb hd hi (lv_at hl2 j hl) (kk H locs ls hP hz hS hl2)
theorem gc_iload_n (C : Cc w a k cc own nL fr lo rc rs) {q : Fin 4} {i : Nat} {x : Int32} (j : Nat) (hl : lv[j]? = some (i, .int x)) (hd : decode cc pc = .ok (.iload_n q, 1)) (hi : (q : Nat) = i) (hn : pc + 1 = n) (kk : Gc w a k n lv (.int x :: st) L kc ks) : Gc w a k pc lv st L kc ks := by
  obtain ⟨p, l, e, R, s, m, args, below, meth, c, nL, Q⟩ := k
  obtain ⟨hx, hb, hml, hnl, hown, hts, hK, hrc, hrs, hfr, hlo, hsa⟩ := C
  subst hn
  intro H locs ls hP hz hS hl2
  exact lv_iload_n hx hb hd hi (lv_at hl2 j hl) (kk H locs ls hP hz hS hl2)
theorem gc_dup (C : Cc w a k cc own nL fr lo rc rs) {v : Value} (hd : decode cc pc = .ok (.dup, 1)) (hv : v.category = 1) (hn : pc + 1 = n) (kk : Gc w a k n lv (v :: v :: st) L kc ks) : Gc w a k pc lv (v :: st) L kc ks := by
  obtain ⟨p, l, e, R, s, m, args, below, meth, c, nL, Q⟩ := k
  obtain ⟨hx, hb, hml, hnl, hown, hts, hK, hrc, hrs, hfr, hlo, hsa⟩ := C
  subst hn
  intro H locs ls hP hz hS hl
  exact lv_dup hx hb hd hv (kk H locs ls hP hz hS hl)
theorem gc_istore_n (C : Cc w a k cc own nL fr lo rc rs) {q0 : Fin 4} {i : Nat} {x : Int32} {lv2 : List (Nat × Value)} (hd : decode cc pc = .ok (.istore_n q0, 1)) (hn : pc + 1 = n) (hi : (q0 : Nat) = i) (hb0 : i < nL) (hl0 : (i, Value.int x) :: lv.filter (fun q => !(q.1 == i) && !(q.1 + 1 == i && q.2.category == 2)) = lv2) (kk : Gc w a k n lv2 st L kc ks) : Gc w a k pc lv (.int x :: st) L kc ks := by
  obtain ⟨p, l, e, R, s, m, args, below, meth, c, nL, Q⟩ := k
  obtain ⟨hx, hb, hml, hnl, hown, hts, hK, hrc, hrs, hfr, hlo, hsa⟩ := C
  subst hn
  subst hnl
  intro H locs ls hP hz hS hl
  exact lv_istore_n hx hb hd hi hl hb0 hl0 (fun ls2 hl2 => kk H locs ls2 hP hz hS hl2)
theorem gc_astore_n (C : Cc w a k cc own nL fr lo rc rs) {q0 : Fin 4} {i : Nat} {x : Nat} {lv2 : List (Nat × Value)} (hd : decode cc pc = .ok (.astore_n q0, 1)) (hn : pc + 1 = n) (hi : (q0 : Nat) = i) (hb0 : i < nL) (hl0 : (i, Value.ref x) :: lv.filter (fun q => !(q.1 == i) && !(q.1 + 1 == i && q.2.category == 2)) = lv2) (kk : Gc w a k n lv2 st L kc ks) : Gc w a k pc lv (.ref x :: st) L kc ks := by
  obtain ⟨p, l, e, R, s, m, args, below, meth, c, nL, Q⟩ := k
  obtain ⟨hx, hb, hml, hnl, hown, hts, hK, hrc, hrs, hfr, hlo, hsa⟩ := C
  subst hn
  subst hnl
  intro H locs ls hP hz hS hl
  exact lv_astore_n hx hb hd hi hl hb0 hl0 (fun ls2 hl2 => kk H locs ls2 hP hz hS hl2)
theorem gc_iinc (C : Cc w a k cc own nL fr lo rc rs) {i : Nat} {q : Int} {x v : Int32} {lv2 : List (Nat × Value)} (j : Nat) (hk : lv[j]? = some (i, .int x)) (hd : decode cc pc = .ok (.iinc i q, 3)) (hn : pc + 3 = n) (hv : x + Int32.ofInt q = v) (hb0 : i < nL) (hl0 : (i, Value.int v) :: lv.filter (fun q => !(q.1 == i) && !(q.1 + 1 == i && q.2.category == 2)) = lv2) (kk : Gc w a k n lv2 st L kc ks) : Gc w a k pc lv st L kc ks := by
  obtain ⟨p, l, e, R, s, m, args, below, meth, c, nL, Q⟩ := k
  obtain ⟨hx, hb, hml, hnl, hown, hts, hK, hrc, hrs, hfr, hlo, hsa⟩ := C
  subst hn
  subst hnl
  intro H locs ls hP hz hS hl
  exact lv_iinc hx hb hd hl hk hv hb0 hl0 (fun ls2 hl2 => kk H locs ls2 hP hz hS hl2)
theorem gc_goto (C : Cc w a k cc own nL fr lo rc rs) {off : Int} (hd : decode cc pc = .ok (.goto off, 3)) (hn : (pc : Int) + off = (n : Int)) (kk : Gc w a k n lv st L kc ks) : Gc w a k pc lv st L kc ks := by
  obtain ⟨p, l, e, R, s, m, args, below, meth, c, nL, Q⟩ := k
  obtain ⟨hx, hb, hml, hnl, hown, hts, hK, hrc, hrs, hfr, hlo, hsa⟩ := C
  intro H locs ls hP hz hS hl
  exact lv_goto hx hb hd hn (kk H locs ls hP hz hS hl)
theorem gc_ge_t (C : Cc w a k cc own nL fr lo rc rs) {off : Int} {x y : Int32} (hd : decode cc pc = .ok (.if_icmp .ge off, 3)) (hn : (pc : Int) + off = (n : Int)) (h : y ≤ x) (kk : Gc w a k n lv st L kc ks) : Gc w a k pc lv (.int y :: .int x :: st) L kc ks := by
  obtain ⟨p, l, e, R, s, m, args, below, meth, c, nL, Q⟩ := k
  obtain ⟨hx, hb, hml, hnl, hown, hts, hK, hrc, hrs, hfr, hlo, hsa⟩ := C
  intro H locs ls hP hz hS hl
  exact lv_icmp_ge hx hb hd hn (fun _ => kk H locs ls hP hz hS hl) (fun h2 => absurd h h2)
theorem gc_ge_f (C : Cc w a k cc own nL fr lo rc rs) {off : Int} {t : Nat} {x y : Int32} (hd : decode cc pc = .ok (.if_icmp .ge off, 3)) (ht : (pc : Int) + off = (t : Int)) (hn : pc + 3 = n) (h : ¬ y ≤ x) (kk : Gc w a k n lv st L kc ks) : Gc w a k pc lv (.int y :: .int x :: st) L kc ks := by
  obtain ⟨p, l, e, R, s, m, args, below, meth, c, nL, Q⟩ := k
  obtain ⟨hx, hb, hml, hnl, hown, hts, hK, hrc, hrs, hfr, hlo, hsa⟩ := C
  subst hn
  intro H locs ls hP hz hS hl
  exact lv_icmp_ge hx hb hd ht (fun h2 => absurd h2 h) (fun _ => kk H locs ls hP hz hS hl)
theorem gc_obj (C : Cc w a k cc own nL fr lo rc rs) {i x : Nat} (hlk : Cond.methodLink own i objectInit ∈ tz) (hin : Cond.instanceMethod objectInit ∈ tz) (hcd : Cond.code objectInit ⟨#[0xb1]⟩ 1 none ∈ tz) (h1 : 1 ≤ fr) (h2 : (st.map fun v => v.category).sum + 12 ≤ lo) (hd : decode cc pc = .ok (.invokespecial i, 3)) (hn : pc + 3 = n) (kk : Gc w a k n lv st L kc ks) : Gc w a k pc lv (.ref x :: st) L kc ks := by
  obtain ⟨p, l, e, R, s, m, args, below, meth, c, nL, Q⟩ := k
  obtain ⟨hx, hb, hml, hnl, hown, hts, hK, hrc, hrs, hfr, hlo, hsa⟩ := C
  subst hn
  intro H locs ls hP hz hS hl
  refine W.objInit hx hb hown (hts _ hlk) (hts _ hin) (hts _ hcd) rfl (by rw [hml]; exact hl.1) rfl hd (Nat.le_trans h1 hfr) ?_ ?_
  · refine Nat.le_trans ?_ hlo
    refine Nat.le_trans (Nat.le_of_eq ?_) h2
    show 2 * (F0 m pc ls _).monitorRoom + _ + 12 = _
    rw [show (F0 m pc ls (Value.ref x :: st)).monitorRoom = 0 from rfl]
    omega
  · exact kk H locs ls hP hz hS hl
theorem gc_new (C : Cc w a k cc own nL fr lo rc rs) {i N ci : Nat} {Cn : String} {T : u_T} {ty : Nat → FieldType} {fs : List Value} {L2 : List va_E} {x kc2 ks2 : Nat} (hin : ∀ y ∈ u_ws Cn T N, y ∈ tz) (hty : ∀ k, k < N → parseFieldDescriptor (T k).2.2.1 = some (ty k)) (hcl : Cond.classLink own i Cn ∈ tz) (hinst : Cond.instantiable Cn N ∈ tz) (hini : Cond.initialized Cn ∈ tz) (hc : vwCl[ci]? = some (Cn, T, N)) (hfs : ∀ j, j < N → defaultValue (ty j) = vp_V fs j) (hL : L ++ [.inr (ci, fs)] = L2) (hx2 : a + L.length = x) (hk1 : kc + 1 = kc2) (hk2 : ks + N = ks2) (hkc : kc2 ≤ rc) (hks : ks2 ≤ rs) (hd : decode cc pc = .ok (.new i, 3)) (hn : pc + 3 = n) (kk : Gc w a k n lv (.ref x :: st) L2 kc2 ks2) : Gc w a k pc lv st L kc ks := by
  obtain ⟨p, l, e, R, s, m, args, below, meth, c, nL, Q⟩ := k
  obtain ⟨hx, hb, hml, hnl, hown, hts, hK, hrc, hrs, hfr, hlo, hsa⟩ := C
  subst hn
  subst hL
  subst hx2
  subst hk1
  subst hk2
  intro H locs ls hP hz hS hl
  have hKn := hK.1.1 ci _ hc
  refine W.newcK hx hb hown (hts _ hcl) (hts _ hinst) (hts _ hini) rfl hd (Nat.le_trans hkc hrc) (Nat.le_trans hks hrs) hKn.2.1 hz fun H1 kC hkC e1 z1 o1 => ?_
  have hk : ∀ (k : Nat) (x : Nat × va_E), (wl a L)[k]? = some x → H1[x.1]? = H[x.1]? := fun k x hx => o1 x.1 (by rw [← hz]; exact (hP k x hx).lt)
  refine kk H1 locs ls ?_ ?_ ⟨by rw [z1, ← hz]; exact Nat.le_succ_of_le hS.1, fun q h1 h2 => (o1 q (by rw [← hz]; exact Nat.lt_of_lt_of_le h1 hS.1)).trans (hS.2.1 q h1 h2), hS.2.2⟩ hl
  · rw [wl_app]
    refine (hP.kept hk).app (fun j q hq => ?_)
    obtain ⟨e2, h2, rfl⟩ := wl_of hq
    have hj : j < 1 := (List.getElem?_eq_some_iff.mp h2).1
    have hj0 : j = 0 := by omega
    subst hj0
    cases h2
    exact ⟨_, hc, (u_born ty hts hin hKn hkC e1 hty).to hfs⟩
  · rw [z1, List.length_append, List.length_singleton, Nat.add_assoc]
theorem gc_put (C : Cc w a k cc own nL fr lo rc rs) (Ii : Ci k) {j f i N ci x : Nat} {Cn : String} {T : u_T} {ty0 : Nat → FieldType} {fs : List Value} {L2 : List va_E} {v : Value} {ty : FieldType} {fin : Bool} (hq : L[j]? = some (.inr (ci, fs))) (hx2 : a + j = x) (hc : vwCl[ci]? = some (Cn, T, N)) (hf0 : f < N) (hin : ∀ y ∈ u_ws Cn T N, y ∈ tz) (hty : ∀ k, k < N → parseFieldDescriptor (T k).2.2.1 = some (ty0 k)) (hnm : ∀ a, a < N → ∀ b, b < N → a ≠ b → (T a).2.1 ≠ (T b).2.1) (hlk : Cond.fieldLink own i (T f).1 (T f).2.1 (T f).2.2.1 ∈ tz) (hfin : (T f).2.2.2 = fin) (hdecl : (T f).1 = own) (hd0 : parseFieldDescriptor (T f).2.2.1 = some ty) (hn0 : narrow ty v = v) (hfit : fits ty v = true) (hlen : f < fs.length) (hL : L.set j (.inr (ci, fs.set f v)) = L2) (hd : decode cc pc = .ok (.putfield i, 3)) (hn : pc + 3 = n) (kk : Gc w a k n lv st L2 kc ks) : Gc w a k pc lv (v :: .ref x :: st) L kc ks := by
  obtain ⟨p, l, e, R, s, m, args, below, meth, c, nL, Q⟩ := k
  obtain ⟨hx, hb, hml, hnl, hown, hts, hK, hrc, hrs, hfr, hlo, hsa⟩ := C
  subst hn
  subst hL
  subst hx2
  intro H locs ls hP hz hS hl
  have he := wl_get (a := a) hq
  have hD := wl_D (A := fun q => a ≤ q) a L (fun _ h => h)
  have fin2 : ∀ (H1 : Heap) (locs1 : List Loc), va_P w.1 vwCl ((wl a L).set j (a + j, .inr (ci, fs.set f v))) H1 → va_S (fun q => a ≤ q) s.heap H1 locs1 → H1.size = H.size → W p l e R s m args below meth c H1 locs1 kc ks Q (F0 m (pc + 3) ls st) := by
    intro H1 locs1 hP1 hS1 hz1
    rw [wl_set] at hP1
    exact kk H1 locs1 ls hP1 (by rw [hz1, hz, List.length_set]) hS1 hl
  have hap := va_apart (own := own) hts hin ty0 hty hnm hK.1 hc
  obtain ⟨r, h1, cell, q1, q2, q3, q4⟩ := hP j _ he
  have hr : r = (Cn, T, N) := Option.some.inj (h1.symm.trans hc)
  subst hr
  obtain ⟨hSl, hfc, kC, hkC, hkind⟩ := hK.1.1 ci _ hc
  obtain ⟨cf, kf, fi, fd, hi, hsl⟩ := hSl f hf0
  have hst := (u_facts hfc hkC (u_lays hts hin hf0) hi).1
  have hlay := hts _ (hin _ (u_in_lay hf0))
  unfold u_lay at hlay
  cases fin with
  | true =>
    rw [if_pos hfin] at hlay
    have hcf : m.cls = cf := by
      obtain ⟨_, _, c2, _, _, _, -, -, hf2, -, -, -, hown2, -⟩ := Cond.laysFinal_spec hlay
      have e1 : c2 = cf := by have := hi.symm.trans hf2; simp at this; exact this.1.symm
      rw [hdecl] at hown2
      rw [← e1]; exact Option.some.inj (hown.symm.trans hown2)
    have h6 := u_fits hfc hkC hkind (Or.inr hlay) hi hd0 hn0 hfit
    refine W.putFinK hx hb hown (hts _ hlk) hi hst hcf Ii (by rw [q2]; exact h6) q1 q3 (by rw [hsl]; exact k2_hasslot (q4 f hf0)) rfl rfl hd fun H2 e1 e2 e3 => ?_
    rw [hsl] at e1 ⊢
    exact fin2 H2 _ (hP.set hD he ⟨_, hc, t_OB.to (V := updV (vp_V fs) f v) ⟨_, e1, q2, q3, t_set q4 hap hf0 v⟩ (fun j _ => vp_updV_set hlen v j)⟩ e3) (hS.put e2 e3 (hD.2 j _ he)) e2
  | false =>
    rw [if_neg (by rw [hfin]; decide)] at hlay
    have h6 := u_store hfc hkC hkind hlay hi hd0 hn0 hfit
    refine W.putK hx hb (f := fd) ⟨hown, hts _ hlk, ⟨_, _, _, hi⟩, hst⟩ (by rw [q2]; exact h6) q1 q3 (by rw [hsl]; exact k2_hasslot (q4 f hf0)) rfl rfl hd fun H2 e1 e2 e3 => ?_
    rw [hsl] at e1 ⊢
    exact fin2 H2 _ (hP.set hD he ⟨_, hc, t_OB.to (V := updV (vp_V fs) f v) ⟨_, e1, q2, q3, t_set q4 hap hf0 v⟩ (fun j _ => vp_updV_set hlen v j)⟩ e3) (hS.put e2 e3 (hD.2 j _ he)) e2
theorem gc_get (C : Cc w a k cc own nL fr lo rc rs) {j f i N ci x : Nat} {Cn : String} {T : u_T} {fs : List Value} {v : Value} (hq : L[j]? = some (.inr (ci, fs))) (hx2 : a + j = x) (hc : vwCl[ci]? = some (Cn, T, N)) (hf0 : f < N) (hin : ∀ y ∈ u_ws Cn T N, y ∈ tz) (hlk : Cond.fieldLink own i (T f).1 (T f).2.1 (T f).2.2.1 ∈ tz) (hv : fs[f]? = some v) (hd : decode cc pc = .ok (.getfield i, 3)) (hn : pc + 3 = n) (kk : Gc w a k n lv (v :: st) L kc ks) : Gc w a k pc lv (.ref x :: st) L kc ks := by
  obtain ⟨p, l, e, R, s, m, args, below, meth, c, nL, Q⟩ := k
  obtain ⟨hx, hb, hml, hnl, hown, hts, hK, hrc, hrs, hfr, hlo, hsa⟩ := C
  subst hn
  subst hx2
  intro H locs ls hP hz hS hl
  exact va_get hx hb hts hin hown hK.1 hP j (wl_get hq) hc f hf0 (hts _ hlk) (fun _ h9 => h9) hv hd (kk H locs ls hP hz hS hl)
theorem gc_newa (C : Cc w a k cc own nL fr lo rc rs) {aty : ArrayType} {t0 N x kc2 ks2 : Nat} {q : Int32} {L2 : List va_E} (hac : Cond.arrayClass (newarray.typeOf aty) ∈ tz) (hty : (tyl w.2)[t0]? = some (w.2 t0, newarray.typeOf aty)) (hra : va_RA = va_RA) (hnm : ∀ U : State, va_RA U (w.2 t0) (newarray.typeOf aty) → U.vm.findClass ("[" ++ (newarray.typeOf aty).toString) = some (w.2 t0)) (hdv : defaultValue (newarray.typeOf aty) = .int 0) (hN0 : ¬ q < 0) (hN : q.toNatClampNeg = N) (hby : N * componentBytes (newarray.typeOf aty) ≤ 536870912) (hL : L ++ [.inl (w.2 t0, N, .inl (fun _ => 0))] = L2) (hx2 : a + L.length = x) (hk1 : kc + 1 = kc2) (hk2 : ks + N = ks2) (hkc : kc2 ≤ rc) (hks : ks2 ≤ rs) (hd : decode cc pc = .ok (.newarray aty, 2)) (hn : pc + 2 = n) (kk : Gc w a k n lv (.ref x :: st) L2 kc2 ks2) : Gc w a k pc lv (.int q :: st) L kc ks := by
  obtain ⟨p, l, e, R, s, m, args, below, meth, c, nL, Q⟩ := k
  obtain ⟨hx, hb, hml, hnl, hown, hts, hK, hrc, hrs, hfr, hlo, hsa⟩ := C
  subst hn
  subst hL
  subst hx2
  subst hk1
  subst hk2
  intro H locs ls hP hz hS hl
  refine va_newaK hx hb (hts _ hac) rfl hd rfl hN0 hN hby (Nat.le_trans hkc hrc) (Nat.le_trans hks hrs) hz fun H1 cA e1 z1 o1 hAr hNm => ?_
  have hcA : cA = w.2 t0 := Option.some.inj (hNm.symm.trans (hnm s (hK.1.2 t0 _ hty).2))
  subst hcA
  have hk : ∀ (k : Nat) (x : Nat × va_E), (wl a L)[k]? = some x → H1[x.1]? = H[x.1]? := fun k x hx => o1 x.1 (by rw [← hz]; exact (hP k x hx).lt)
  refine kk H1 locs ls ?_ ?_ ⟨by rw [z1, ← hz]; exact Nat.le_succ_of_le hS.1, fun q h1 h2 => (o1 q (by rw [← hz]; exact Nat.lt_of_lt_of_le h1 hS.1)).trans (hS.2.1 q h1 h2), hS.2.2⟩ hl
  · rw [wl_app]
    refine (hP.kept hk).app (fun j q hq => ?_)
    obtain ⟨e2, h2, rfl⟩ := wl_of hq
    have hj : j < 1 := (List.getElem?_eq_some_iff.mp h2).1
    have hj0 : j = 0 := by omega
    subst hj0
    cases h2
    rw [hdv] at e1
    exact e1
  · rw [z1, List.length_append, List.length_singleton, Nat.add_assoc]
theorem gc_anew (C : Cc w a k cc own nL fr lo rc rs) {i N x kc2 ks2 : Nat} {q : Int32} {L2 : List va_E} (hcl : Cond.classLink own i "TannedMen$Man" ∈ tz) (hN0 : ¬ q < 0) (hN : q.toNatClampNeg = N) (hby : N * 4 ≤ 536870912) (hL : L ++ [.inl (w.2 2, N, .inr (.inr (.inr (.inr (fun _ => none)))))] = L2) (hx2 : a + L.length = x) (hk1 : kc + 1 = kc2) (hk2 : ks + N = ks2) (hkc : kc2 ≤ rc) (hks : ks2 ≤ rs) (hd : decode cc pc = .ok (.anewarray i, 3)) (hn : pc + 3 = n) (kk : Gc w a k n lv (.ref x :: st) L2 kc2 ks2) : Gc w a k pc lv (.int q :: st) L kc ks := by
  obtain ⟨p, l, e, R, s, m, args, below, meth, c, nL, Q⟩ := k
  obtain ⟨hx, hb, hml, hnl, hown, hts, hK, hrc, hrs, hfr, hlo, hsa⟩ := C
  subst hn
  subst hL
  subst hx2
  subst hk1
  subst hk2
  subst hN
  intro H locs ls hP hz hS hl
  refine W.anew hx hb hown (hts _ hcl) (va_AO.use hK.2.1) rfl hd rfl hN0 hby (Nat.le_trans hkc hrc) (Nat.le_trans hks hrs) fun cA kA comp f1 f2 f3 f4 => ?_
  generalize hH1 : H.push ({ cls := cA, slots := Array.replicate q.toNatClampNeg .null, vm := .none } : Cell) = H1
  have z1 : H1.size = H.size + 1 := by rw [← hH1, Array.size_push]
  have e1 : H1[H.size]? = some (arrV cA q.toNatClampNeg (fun _ => .null)) := by rw [← hH1, Array.getElem?_push_size, ← arrV_new]
  have o1 : ∀ q : Nat, q < H.size → H1[q]? = H[q]? := fun q hq => by rw [← hH1, Array.getElem?_push, if_neg (Nat.ne_of_lt hq)]
  have hcA : cA = w.2 2 := by
    obtain ⟨kA2, comp2, g1, g2, g3, g4⟩ := (hK.1.2 2 _ rfl).2
    first | exact Option.some.inj (f4.symm.trans g4) | exact Option.some.inj (f1.symm.trans g4)
  subst hcA
  have hk : ∀ (k : Nat) (x : Nat × va_E), (wl a L)[k]? = some x → H1[x.1]? = H[x.1]? := fun k x hx => o1 x.1 ((hP k x hx).lt)
  rw [hz]
  refine kk H1 locs ls ?_ ?_ ⟨by rw [z1]; exact Nat.le_succ_of_le hS.1, fun q h1 h2 => (o1 q (Nat.lt_of_lt_of_le h1 hS.1)).trans (hS.2.1 q h1 h2), hS.2.2⟩ hl
  · rw [wl_app]
    refine (hP.kept hk).app (fun j q hq => ?_)
    obtain ⟨e2, h2, rfl⟩ := wl_of hq
    have hj : j < 1 := (List.getElem?_eq_some_iff.mp h2).1
    have hj0 : j = 0 := by omega
    subst hj0
    cases h2
    rw [hz] at e1
    exact e1
  · rw [z1, hz, List.length_append, List.length_singleton, Nat.add_assoc]
theorem gc_aast (C : Cc w a k cc own nL fr lo rc rs) {j jm N x v : Nat} {q : Int32} {vs : List Value} {f : Nat → Option Nat} {L2 : List va_E} (hq : L[j]? = some (.inl (w.2 2, N, .inr (.inr (.inr (.inr f)))))) (hx2 : a + j = x) (hv : L[jm]? = some (.inr (3, vs))) (hv2 : a + jm = v) (hi : ¬ (q < 0 ∨ N ≤ q.toNatClampNeg)) (hL : L.set j (.inl (w.2 2, N, .inr (.inr (.inr (.inr (va_up f q.toNatClampNeg (some v))))))) = L2) (hd : decode cc pc = .ok (.aastore, 1)) (hn : pc + 1 = n) (kk : Gc w a k n lv st L2 kc ks) : Gc w a k pc lv (.ref v :: .int q :: .ref x :: st) L kc ks := by
  obtain ⟨p, l, e, R, s, m, args, below, meth, c, nL, Q⟩ := k
  obtain ⟨hx, hb, hml, hnl, hown, hts, hK, hrc, hrs, hfr, hlo, hsa⟩ := C
  subst hn
  subst hL
  subst hx2
  subst hv2
  intro H locs ls hP hz hS hl
  have he := wl_get (a := a) hq
  have hD := wl_D (A := fun q => a ≤ q) a L (fun _ h => h)
  have hlt : q.toNatClampNeg < N := Nat.not_le.mp fun h => hi (Or.inr h)
  have h0 : ¬ q < 0 := fun h => hi (Or.inl h)
  obtain ⟨r2, hr2, cellV, g1, g2, g3, -⟩ := hP jm _ (wl_get hv)
  have hc : vwCl[3]? = some (RX3, TX3, 5) := rfl
  have hcls := (hK.1.1 3 _ hc).2
  obtain ⟨kA, comp, k1, k2, k3, -⟩ := (hK.1.2 2 _ rfl).2
  have hcomp : comp = w.1.1 3 := Option.some.inj (k3.symm.trans hcls.1)
  subst hcomp
  obtain ⟨kC, hkC, -⟩ := hcls.2
  refine W.aast hx hb (hP j _ he) (fun q h => by cases h) (fun h => by cases h) k1 k2 rfl hkC ⟨h0, by show _ < (arrV _ _ _).slots.size; rw [arrV_size]; exact hlt⟩ g1 (fun q h => by rw [g3] at h; cases h) (by rw [g2]; exact hkC) (by rw [g2]; exact va_assign hcls) rfl rfl hd fun H1 e z oq => ?_
  have hP1 : va_P w.1 vwCl ((wl a L).set j (a + j, .inl (w.2 2, N, .inr (.inr (.inr (.inr (va_up f q.toNatClampNeg (some (a + jm))))))))) H1 := hP.set hD he (by
    show H1[a + j]? = some (vp_cell _ _)
    rw [e]
    rw [vp_cell_q, vp_cell_q, arrV_store]
    congr 2
    funext q2
    by_cases hq2 : q2 = q.toNatClampNeg
    · subst hq2
      simp [updV, va_up, va_rf]
    · simp [updV, va_up, hq2]) oq
  rw [wl_set] at hP1
  exact kk H1 _ ls hP1 (by rw [z, hz, List.length_set]) (hS.put z oq (hD.2 j _ he)) hl
theorem gc_vret {p : Program} {l : Launch} {e : Env} {R : Room} {m : MethodId} {c : Code} {nL2 : Nat} {below : List Frame} {args : Array Value} {s : State} {meth : Method} {B : State → Prop} (C : Cc w a (p, l, e, R, s, m, args, below, meth, c, nL2, MQ below (va_Qv (fun (_ : Unit) => True) (fun _ t => B t) (fun q => a ≤ q)) args s kc ks (fun q => a ≤ q)) cc own nL fr lo rc rs) (hr : meth.sig.returnType = none) (hlocks : meth.locks = false) (hB : ∀ t : State, va_P w.1 vwCl (wl a L) t.heap → t.heap.size = a + L.length → Kc w t → B t) (hd : decode cc pc = .ok (.return_, 1)) : Gc w a (p, l, e, R, s, m, args, below, meth, c, nL2, MQ below (va_Qv (fun (_ : Unit) => True) (fun _ t => B t) (fun q => a ≤ q)) args s kc ks (fun q => a ≤ q)) pc lv [] L kc ks := by
  obtain ⟨hx, hb, hml, hnl, hown, hts, hK, hrc, hrs, hfr, hlo, hsa⟩ := C
  intro H locs ls hP hz hS hl
  exact W.vret hx hb hr (fun t ht hW => ⟨⟨(), rfl, trivial, hB t (by rw [ht]; exact hP) (by rw [ht]; exact hz) (hK.warm hW)⟩, hS.F ht⟩) hS.2.2 hd
end GC
/-- a constructor's contract: from its blank cell at a to the cells blk; mc cells of ms slots are made -/
def Bc (w : WX) (a : Nat) (L : List va_E) (U : State) : Prop := va_P w.1 vwCl (wl a L) U.heap ∧ U.heap.size = a + L.length ∧ Kc w U
def Mc (l : Launch) (w : WX) (a : Nat) (y : MethodName) (b : ByteArray) (n fr lo mc ms : Nat) (av : List Value) (L L2 : List va_E) : Prop := Met l y (wz y b n none) { frames := fr, cells := mc, slots := ms, locals := lo } (va_Pc av (Bc w a L)) (va_Qv (fun (_ : Unit) => True) (fun _ t => Bc w a L2 t) (fun q => a ≤ q)) mc ms (fun q => a ≤ q)
theorem bc_blind {w : WX} {a : Nat} {L : List va_E} {av : List Value} : FrameBlind (va_Pc av (Bc w a L)) := by
  intro x U g mk q
  obtain ⟨q0, qP, qz, qK⟩ := q
  exact ⟨q0, qP, qz, Kc.same rfl qK⟩
theorem mc_of {w : WX} {a : Nat} {l : Launch} {y : MethodName} {b : ByteArray} {mL fr lo mc ms : Nat} {av : List Value} {lv : List (Nat × Value)} {L L2 : List va_E} (hy : plainFor y = true) (hnm : y.name = "<init>") (hlv : lv_args 0 av = lv) (hlen : (lg_sl av).length ≤ mL) (hL : 1 ≤ L.length)
    (body : ∀ k : KY, Cc w a k b y.cls mL fr lo mc ms → Ci k → (∀ {pc : Nat} {lv : List (Nat × Value)}, decode b pc = .ok (.return_, 1) → Gc w a k pc lv [] L2 mc ms) → Gc w a k 0 lv [] L 0 0) : Mc l w a y b mL fr lo mc ms av L L2 := by
  refine metF (cc := b) (maxL := mL) (ret := none) hy rfl ?_
  intro p e s m args below meth c s1 B hml hv
  obtain ⟨rfl, hP, hz, hK⟩ := hv
  have hts0 := atoms_spec (ws := wz y b mL none) B.pre
  have hts : ∀ x ∈ tz, x.before av.toArray s = true := fun x hx => hts0 x (List.mem_cons_of_mem _ hx)
  have hown : s.vm.findClass y.cls = some m.cls := findClass_of_methodNamed B.named
  have hl := lv_entry av (n := mL) hlen
  rw [lg_entry_eq]
  rw [hlv] at hl
  generalize (lg_sl av ++ List.replicate (mL - (lg_sl av).length) Slot.unset).toArray = ls at hl ⊢
  have C : Cc w a (p, l, e, (headSpec (wz y b mL none) { frames := fr, cells := mc, slots := ms, locals := lo }).room, s, m, av.toArray, below, meth, c, mL, MQ below (va_Qv (fun (_ : Unit) => True) (fun _ t => Bc w a L2 t) (fun q => a ≤ q)) av.toArray s mc ms (fun q => a ≤ q)) b y.cls mL fr lo mc ms := ⟨B.exec, B.bytes, hml, rfl, hown, hts, hK, Nat.le_refl _, Nat.le_refl _, Nat.le_refl fr, Nat.le_refl lo, by rw [hz]; exact Nat.le_add_right _ _⟩
  exact body _ C ((name_of_methodNamed B.named B.method).1.trans hnm) (fun hd => gc_vret C B.returns B.notSynchronized (fun t h1 h2 h3 => ⟨h1, h2, h3⟩) hd) s.heap [] ls hP hz va_S.rf hl
section GC2
variable {w : WX} {a : Nat} {k : KY} {cc : ByteArray} {own : String} {nL fr lo rc rs : Nat} {pc n : Nat} {lv : List (Nat × Value)} {st : List Value} {L : List va_E} {kc ks : Nat}
theorem gc_after {p : Program} {l : Launch} {e : Env} {R : Room} {s : State} {m : MethodId} {args : Array Value} {below : List Frame} {meth : Method} {c : Code} {nL2 : Nat} {Q : State → Prop} {mc ms a2 : Nat} {L0 blk : List va_E} {ls : Array Slot} {st0 : List Value} {H : Heap} {locs : List Loc} {x0 : Array Value} {y : va_E} (hx2 : a + L0.length = a2) (hP : va_P w.1 vwCl (wl a (L0 ++ [y])) H) (hz : H.size = a + (L0 ++ [y]).length) (hS : va_S (fun q => a ≤ q) s.heap H locs) (hl : lv_has ls nL2 lv)
    (hr : va_Run p l e R s m args below meth c H locs kc ks mc ms (F0 m pc ls st0) st (va_Qv (fun (_ : Unit) => True) (fun _ t => Bc w a2 blk t) (fun q => a2 ≤ q) x0) (fun q => a2 ≤ q))
    (kk : ∀ (H1 : Heap) (locs1 : List Loc), va_P w.1 vwCl (wl a (L0 ++ blk)) H1 → H1.size = a + (L0 ++ blk).length → va_S (fun q => a ≤ q) s.heap H1 locs1 → W p l e R s m args below meth c H1 locs1 (kc + mc) (ks + ms) Q (F0 m (pc + 3) ls st)) : W p l e R s m args below meth c H locs kc ks Q (F0 m pc ls st0) := by
  refine va_callv hr hS (fun q _ h => by subst hx2; exact Nat.le_trans (Nat.le_add_right _ _) h) (fun q h => by subst hx2; exact Nat.le_trans (Nat.le_add_right _ _) h) (fun u t H1 locs1 ht hvm hw hB hz1 hk1 hS1 => ?_)
  obtain ⟨b1, b2, -⟩ := hB
  rw [ht] at b1 b2
  refine kk H1 locs1 ?_ (by rw [b2, List.length_append, ← hx2, Nat.add_assoc]) hS1
  rw [wl_app, hx2]
  rw [wl_app] at hP
  have hPa : va_P w.1 vwCl (wl a L0) H := fun j q hq => hP j q (by rw [List.getElem?_append_left (List.getElem?_eq_some_iff.mp hq).1]; exact hq)
  refine (hPa.kept (fun j q hq => hk1 q.1 (hPa j q hq).lt ?_)).app b1
  obtain ⟨e2, h2, rfl⟩ := wl_of hq
  have hj : j < L0.length := (List.getElem?_eq_some_iff.mp h2).1
  show ¬ a2 ≤ a + j
  omega
/-- new C(..): the constructor of the last cell, of a nest mate -/
theorem gc_initN (C : Cc w a k cc own nL fr lo rc rs) {i nA mL f2 l2 mc ms a2 kc2 ks2 : Nat} {y : MethodName} {b : ByteArray} {As st0 : List Value} {L0 blk L2 : List va_E} {ye : va_E} (hM : ∀ l : Launch, Mc l w a2 y b mL f2 l2 mc ms (.ref a2 :: As) [ye] blk) (hcd : Cond.code y b mL none ∈ tz) (him : Cond.instanceMethod y ∈ tz) (hini : Cond.initialized y.cls ∈ tz) (hnk : (own, i, y) ∈ nlk) (hnm : y.name = "<init>") (hcn : y.cls ≠ "java/lang/invoke/MethodHandle" ∧ y.cls ≠ "java/lang/invoke/VarHandle" ∧ (parseMethodDescriptor y.desc).map (fun d => d.parameters.length) = some nA) (hR : f2 + 1 ≤ fr ∧ 8 + (mL + 11) + l2 ≤ lo) (hL0 : L = L0 ++ [ye]) (hx2 : a + L0.length = a2) (hna : As.length = nA) (hst : st0 = As.reverse ++ .ref a2 :: st) (hr8 : (st.map fun v => v.category).sum ≤ 8) (hL : L0 ++ blk = L2) (hk1 : kc + mc = kc2) (hk2 : ks + ms = ks2) (hkc : kc2 ≤ rc) (hks : ks2 ≤ rs) (hd : decode cc pc = .ok (.invokespecial i, 3)) (hn : pc + 3 = n) (kk : Gc w a k n lv st L2 kc2 ks2) : Gc w a k pc lv st0 L kc ks := by
  obtain ⟨p, l, e, R, s, m, args, below, meth, c, nL, Q⟩ := k
  obtain ⟨hx, hb, hml, hnl, hown, hts, hK, hrc, hrs, hfr, hlo, hsa⟩ := C
  subst hn
  subst hL
  subst hk1
  subst hk2
  subst hL0
  intro H locs ls hP hz hS hl
  refine gc_after (x0 := (Value.ref a2 :: As).toArray) hx2 hP hz hS hl (va_runIN (As := As) (rest := st) (host := RX10) ⟨hx, hb, hml, hown, hts⟩ (hM l) ⟨va_cnB nA hts (gdZ hcd) rfl rfl rfl (hK.2.2.2 _ hnk) (hts _ hini) hcn ⟨Nat.le_trans hR.1 hfr, Nat.le_trans hR.2 hlo⟩, hnm, hts _ him⟩ ⟨bc_blind, fun U hU hW => ⟨rfl, ?_, ?_, hK.warm hW⟩⟩ rfl hna hl.1 hst (rest8 hr8) hd ⟨Nat.le_trans hkc hrc, Nat.le_trans hks hrs⟩) (fun H1 locs1 h1 h2 h3 => kk H1 locs1 ls h1 h2 h3 hl)
  · rw [hU]
    intro j q hq
    rw [wl_app, hx2] at hP
    exact hP ((wl a L0).length + j) q (by rw [List.getElem?_append_right (Nat.le_add_right _ _), Nat.add_sub_cancel_left]; exact hq)
  · rw [hU, hz, List.length_append, ← hx2, Nat.add_assoc]
/-- the same, not private -/
theorem gc_initP (C : Cc w a k cc own nL fr lo rc rs) {i nA mL f2 l2 mc ms a2 kc2 ks2 : Nat} {y : MethodName} {b : ByteArray} {As st0 : List Value} {L0 blk L2 : List va_E} {ye : va_E} (hM : ∀ l : Launch, Mc l w a2 y b mL f2 l2 mc ms (.ref a2 :: As) [ye] blk) (hcd : Cond.code y b mL none ∈ tz) (him : Cond.instanceMethod y ∈ tz) (hini : Cond.initialized y.cls ∈ tz) (hlk : Cond.methodLink own i y ∈ tz) (hnm : y.name = "<init>") (hcn : y.cls ≠ "java/lang/invoke/MethodHandle" ∧ y.cls ≠ "java/lang/invoke/VarHandle" ∧ (parseMethodDescriptor y.desc).map (fun d => d.parameters.length) = some nA) (hR : f2 + 1 ≤ fr ∧ 8 + (mL + 11) + l2 ≤ lo) (hL0 : L = L0 ++ [ye]) (hx2 : a + L0.length = a2) (hna : As.length = nA) (hst : st0 = As.reverse ++ .ref a2 :: st) (hr8 : (st.map fun v => v.category).sum ≤ 8) (hL : L0 ++ blk = L2) (hk1 : kc + mc = kc2) (hk2 : ks + ms = ks2) (hkc : kc2 ≤ rc) (hks : ks2 ≤ rs) (hd : decode cc pc = .ok (.invokespecial i, 3)) (hn : pc + 3 = n) (kk : Gc w a k n lv st L2 kc2 ks2) : Gc w a k pc lv st0 L kc ks := by
  obtain ⟨p, l, e, R, s, m, args, below, meth, c, nL, Q⟩ := k
  obtain ⟨hx, hb, hml, hnl, hown, hts, hK, hrc, hrs, hfr, hlo, hsa⟩ := C
  subst hn
  subst hL
  subst hk1
  subst hk2
  subst hL0
  intro H locs ls hP hz hS hl
  refine gc_after (x0 := (Value.ref a2 :: As).toArray) hx2 hP hz hS hl (va_runI (As := As) (rest := st) ⟨hx, hb, hml, hown, hts⟩ (hM l) (cwI nA hts (gdZ hcd) rfl rfl rfl (hts _ hini) (hts _ hlk) (hts _ him) hnm hcn ⟨Nat.le_trans hR.1 hfr, Nat.le_trans hR.2 hlo⟩) ⟨bc_blind, fun U hU hW => ⟨rfl, ?_, ?_, hK.warm hW⟩⟩ rfl hna hl.1 hst (rest8 hr8) hd ⟨Nat.le_trans hkc hrc, Nat.le_trans hks hrs⟩) (fun H1 locs1 h1 h2 h3 => kk H1 locs1 ls h1 h2 h3 hl)
  · rw [hU]
    intro j q hq
    rw [wl_app, hx2] at hP
    exact hP ((wl a L0).length + j) q (by rw [List.getElem?_append_right (Nat.le_add_right _ _), Nat.add_sub_cancel_left]; exact hq)
  · rw [hU, hz, List.length_append, ← hx2, Nat.add_assoc]
end GC2
