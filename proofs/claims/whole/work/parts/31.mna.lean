theorem vr_outer2 (c : ClassId) (N h0 : Nat) : ∀ i : Nat, Jvm.Free.Multi.outerC c N h0 i = arrV c N (fun j => va_rf (if j < i then some (h0 + 1 + j) else none))
  | 0 => by
    show ({ cls := c, slots := Array.replicate N .null, vm := .none } : Cell) = _
    rw [arrV_new]
    refine congrArg (arrV c N) (funext fun j => ?_)
    simp [va_rf]
  | i + 1 => by
    show (Jvm.Free.Multi.outerC c N h0 i).setSlot i (.ref (h0 + 1 + i)) = _
    rw [vr_outer2 c N h0 i, arrV_store]
    refine congrArg (arrV c N) (funext fun j => ?_)
    by_cases e : j = i
    · subst e
      simp [updV, va_rf]
    · by_cases h : j < i
      · simp [updV, e, h, Nat.lt_succ_of_lt h]
      · simp [updV, e, h, show ¬ j < i + 1 by omega]
theorem arrV_ext (c : ClassId) (N : Nat) {f g : Nat → Value} (h : ∀ j, j < N → f j = g j) : arrV c N f = arrV c N g := by
  unfold arrV
  congr 1
  congr 1
  funext j
  exact h j.val j.isLt
theorem gc_mna {w : WX} {a : Nat} {k : KY} {cc : ByteArray} {own : String} {nL fr lo rc rs : Nat} {pc n : Nat} {lv : List (Nat × Value)} {st : List Value} {L : List va_E} {kc ks : Nat} (C : Cc w a k cc own nL fr lo rc rs) {i N M x kc2 ks2 : Nat} {qn qk : Int32} {L2 : List va_E} (hcl : Cond.classLink own i ("[" ++ (FieldType.array .int).toString) ∈ tz) (hac : Cond.arrayClass .int ∈ tz) (hn0 : ¬ qn < 0) (hk0 : ¬ qk < 0) (hN : qn.toNatClampNeg = N) (hM : qk.toNatClampNeg = M) (hb1 : N * 4 ≤ 536870912) (hb2 : M * componentBytes .int ≤ 536870912) (hb3 : M ≤ 536870912) (hx2 : a + L.length = x) (hL : L ++ (.inl (w.2 3, N, .inr (.inr (.inr (.inr (fun j => some (x + 1 + j)))))) :: List.replicate N (.inl (w.2 0, M, .inl (fun _ => 0)))) = L2) (hk1 : kc + 1 + N = kc2) (hk2 : ks + N + N * M = ks2) (hkc : kc2 ≤ rc) (hks : ks2 ≤ rs) (hd : decode cc pc = .ok (.multianewarray i 2, 4)) (hn : pc + 4 = n) (kk : Gc w a k n lv (.ref x :: st) L2 kc2 ks2) : Gc w a k pc lv (.int qk :: .int qn :: st) L kc ks := by
  obtain ⟨p, l, e, R, s, m, args, below, meth, c, nL, Q⟩ := k
  obtain ⟨hx, hb, hml, hnl, hown, hts, hK, hrc, hrs, hfr, hlo, hsa⟩ := C
  subst hn
  subst hL
  subst hx2
  subst hk1
  subst hk2
  subst hN
  subst hM
  intro H locs ls hP hz hS hl
  intro T hT Xs
  obtain ⟨vm1, cA, comp, -, fA, fC, hO, -, X2, step⟩ := Xs.multianewarray2F hx hown (hts _ hcl) hK.2.2.1 (hts _ hac) (g := F0 m pc ls (.int qk :: .int qn :: st)) rfl (by rw [hb]; exact hd) rfl hn0 hk0 hb1 hb2 hb3 (by decide) (by decide) (by rw [← Nat.add_assoc]; exact Nat.le_trans hkc hrc) (by rw [← Nat.add_assoc]; exact Nat.le_trans hks hrs)
  have ecA : cA = w.2 3 := Option.some.inj (fA.symm.trans (hK.1.2 3 _ rfl).2)
  have ecC : comp = w.2 0 := by
    have h0 : s.vm.findClass ("[" ++ (FieldType.int).toString) = some (w.2 0) := (hK.1.2 0 _ rfl).2
    have e0 : (FieldType.array .int).toString = "[" ++ (FieldType.int).toString := by decide +kernel
    rw [e0] at fC
    exact Option.some.inj (fC.symm.trans h0)
  subst ecA
  subst ecC
  generalize hF : Jvm.Free.Multi.fill (T.setVm vm1) (w.2 3) (w.2 0) qn.toNatClampNeg qk.toNatClampNeg (defaultValue .int) qn.toNatClampNeg = F at X2 step
  have hTh : (T.setVm vm1).heap = H := hT
  obtain ⟨f1, f2, -, -⟩ := Jvm.Free.Multi.fill_facts (T.setVm vm1) (w.2 3) (w.2 0) qn.toNatClampNeg qk.toNatClampNeg (defaultValue .int) qn.toNatClampNeg
  rw [hF, hTh] at f1 f2
  have hold : ∀ x : Nat, x < H.size → F.heap[x]? = H[x]? := fun x hx => by
    have := Jvm.Free.Multi.fill_old (T.setVm vm1) (w.2 3) (w.2 0) qn.toNatClampNeg qk.toNatClampNeg (defaultValue .int) (a := x) (by rw [hTh]; exact hx) qn.toNatClampNeg
    rw [hF, hTh] at this
    exact this
  have hrow : ∀ j : Nat, j < qn.toNatClampNeg → F.heap[H.size + 1 + j]? = some (vp_cell (w.2 0) (qk.toNatClampNeg, .inl (fun _ => 0))) := fun j hj => by
    have := Jvm.Free.Multi.fill_inner (T.setVm vm1) (w.2 3) (w.2 0) qn.toNatClampNeg qk.toNatClampNeg (defaultValue .int) qn.toNatClampNeg j hj
    rw [hF, hTh] at this
    rw [this, vp_cell_i]
    exact congrArg some (arrV_new (w.2 0) qk.toNatClampNeg (.int 0))
  have hout : Jvm.Free.Multi.outerC (w.2 3) qn.toNatClampNeg H.size qn.toNatClampNeg = vp_cell (w.2 3) (qn.toNatClampNeg, .inr (.inr (.inr (.inr (fun i => some (H.size + 1 + i)))))) := by
    rw [vp_cell_q, vr_outer2]
    exact arrV_ext _ _ (fun j hj => by rw [if_pos hj])
  rw [hout] at f2
  have hPk : va_P w.1 vwCl (wl a L) F.heap := hP.kept (fun k9 x hx => hold x.1 ((hP k9 x hx).lt))
  have hPn : va_P w.1 vwCl (wl a (L ++ (.inl (w.2 3, qn.toNatClampNeg, .inr (.inr (.inr (.inr (fun j => some (a + L.length + 1 + j)))))) :: List.replicate qn.toNatClampNeg (.inl (w.2 0, qk.toNatClampNeg, .inl (fun _ => 0)))))) F.heap := by
    rw [wl_app]
    refine hPk.app (fun j q hq => ?_)
    obtain ⟨e2, h2, rfl⟩ := wl_of hq
    cases j with
    | zero =>
      cases h2
      show F.heap[a + L.length + 0]? = _
      rw [Nat.add_zero, ← hz]
      exact f2
    | succ j =>
      have h2 : (List.replicate qn.toNatClampNeg ((.inl (w.2 0, qk.toNatClampNeg, .inl (fun _ => 0))) : va_E))[j]? = some e2 := h2
      have hj : j < qn.toNatClampNeg := by
        have := (List.getElem?_eq_some_iff.mp h2).1
        rw [List.length_replicate] at this
        exact this
      rw [List.getElem?_replicate, if_pos hj] at h2
      cases h2
      show F.heap[a + L.length + (j + 1)]? = _
      rw [← hz, show H.size + (j + 1) = H.size + 1 + j by omega]
      exact hrow j hj
  obtain ⟨t, a1, b1⟩ := kk F.heap locs ls hPn (by rw [f1, hz, List.length_append, List.length_cons, List.length_replicate]; omega) ⟨by rw [f1]; have := hS.1; omega, fun x h1 h2 => (hold x (Nat.lt_of_lt_of_le h1 hS.1)).trans (hS.2.1 x h1 h2), hS.2.2⟩ hl F rfl X2
  refine ⟨t, step t ?_, b1⟩
  have e9 : T.heap.size = a + L.length := by rw [hT]; exact hz
  rw [e9]
  exact a1
