/-- what the pure part owes -/
def Pure : Prop := ∀ (L : Nat) (xs : Nat → Int32), L ≤ 320 → ∃ (r : Int32) (S2 : St), fL_law L xs S0 = some (r, S2)
set_option maxRecDepth 100000 in
set_option maxHeartbeats 8000000 in
theorem whole_of (hpure : Pure) {p : Program} {e : Env} {s : State} {m : MethodId} {below : List Frame} {meth : Method} {c : Code} (l : Launch) {b L : Nat} {xs : Nat → Int32} (hL : L ≤ 320) (C0 : lw_At p s m meth c b L xs) : W p l e room_1 s m #[Value.ref b] below meth c s.heap [] 0 0 (lw_Z below #[Value.ref b] s) (entryFrame m ([Value.ref b] : List Value).toArray 4) := by
  obtain ⟨hx, hb, hr, hml, hown, hts0, hX, hbl, hlocks, hgv⟩ := id C0
  have hts : ∀ x ∈ tz, x.before #[Value.ref b] s = true := fun x hx => hts0 x (List.mem_filter.mp hx).1
  obtain ⟨c0, iS0, hKn0⟩ := u_known (C := RX0) (T := TX0) (N := 3) (n := 3) hts inX0z (hts _ it_X0)
  obtain ⟨c1, iS1, hKn1⟩ := u_known (C := RX1) (T := TX1) (N := 1) (n := 1) hts inX1z (hts _ it_X1)
  obtain ⟨c2, iS2, hKn2⟩ := u_known (C := RX2) (T := TX2) (N := 8) (n := 8) hts inX2z (hts _ it_X2)
  obtain ⟨c3, iS3, hKn3⟩ := u_known (C := RX3) (T := TX3) (N := 5) (n := 5) hts inX3z (hts _ it_X3)
  obtain ⟨c4, iS4, hKn4⟩ := u_known (C := RX4) (T := TX4) (N := 6) (n := 6) hts inX4z (hts _ it_X4)
  obtain ⟨c5, iS5, hKn5⟩ := u_known (C := RX5) (T := TX5) (N := 3) (n := 3) hts inX5z (hts _ it_X5)
  obtain ⟨c6, iS6, hKn6⟩ := u_known (C := RX6) (T := TX6) (N := 8) (n := 8) hts inX6z (hts _ it_X6)
  obtain ⟨c7, iS7, hKn7⟩ := u_known (C := RX7) (T := TX7) (N := 5) (n := 5) hts inX7z (hts _ it_X7)
  obtain ⟨c8, iS8, hKn8⟩ := u_known (C := RX8) (T := TX8) (N := 5) (n := 5) hts inX8z (hts _ it_X8)
  obtain ⟨c9, iS9, hKn9⟩ := u_known (C := RX9) (T := TX9) (N := 6) (n := 6) hts inX9z (hts _ it_X9)
  obtain ⟨c10, iS10, hKn10⟩ := u_known (C := RX10) (T := TX10) (N := 10) (n := 10) hts inX10z (hts _ it_X10)
  obtain ⟨c11, iS11, hKn11⟩ := u_known (C := RX11) (T := TX11) (N := 42) (n := 42) hts inX11z (hts _ it_X11)
  obtain ⟨dC, dI, hKc⟩ : ∃ (dC : Nat → ClassId) (dI : Nat → Nat → Nat), ∀ (k : Nat) (q : vw_C), vwCl[k]? = some q → u_Kn s q.1 q.2.1 q.2.2 (dC k) (dI k) := by
    refine ⟨fun k => [c0, c1, c2, c3, c4, c5, c6, c7, c8, c9, c10, c11].getD k c0, fun k => [iS0, iS1, iS2, iS3, iS4, iS5, iS6, iS7, iS8, iS9, iS10, iS11].getD k iS0, ?_⟩
    intro k q hq
    match k, hq with
    | 0, hq => cases hq; exact hKn0
    | 1, hq => cases hq; exact hKn1
    | 2, hq => cases hq; exact hKn2
    | 3, hq => cases hq; exact hKn3
    | 4, hq => cases hq; exact hKn4
    | 5, hq => cases hq; exact hKn5
    | 6, hq => cases hq; exact hKn6
    | 7, hq => cases hq; exact hKn7
    | 8, hq => cases hq; exact hKn8
    | 9, hq => cases hq; exact hKn9
    | 10, hq => cases hq; exact hKn10
    | 11, hq => cases hq; exact hKn11
    | k + 12, hq => simp [vwCl] at hq
  obtain ⟨cI, kI, cmI, hI1, hI2, hI3⟩ := Cond.arrayClass_spec (hts _ ac_I)
  obtain ⟨cZ, kZ, cmZ, hZ1, hZ2, hZ3⟩ := Cond.arrayClass_spec (hts _ ac_Z)
  obtain ⟨cmM, cM, kM, hM1, hM2, hM3, hM4, hM5⟩ := Cond.arrayOver_spec (hts0 _ ao_M)
  obtain ⟨cmA, cA, kA, hA1, hA2, hA3, hA4, hA5⟩ := arrayOverA_spec (hts0 _ ao_I)
  have hK : va_K (dC, dI) vwCl (tyl (fun i => [cI, cZ, cM, cA].getD i cI)) s := by
    refine ⟨hKc, fun k q hq => ?_⟩
    match k, hq with
    | 0, hq => cases hq; exact ⟨fun N z => ⟨(fun q hq => by cases hq), kI, hI2, cmI, hI3⟩, hI1⟩
    | 1, hq => cases hq; exact ⟨fun N z => ⟨(fun q hq => by cases hq), kZ, hZ2, cmZ, hZ3⟩, hZ1⟩
    | 2, hq => cases hq; exact ⟨fun N z => ⟨(fun q hq => by cases hq), kM, hM3, cmM, hM4⟩, kM, cmM, hM3, hM4, hM1, hM5⟩
    | 3, hq => cases hq; exact ⟨fun N z => ⟨(fun q hq => by cases hq), kA, hA3, cmA, hA4⟩, hA5⟩
    | k + 4, hq => simp [tyl] at hq
  have hKK : Kc ((dC, dI), fun i => [cI, cZ, cM, cA].getD i cI) s := by
    refine ⟨hK, va_AO.of (hts0 _ ao_M), hts0 _ ao_I, ?_⟩
    unfold nlk
    refine List.forall_mem_cons.mpr ⟨va_Nw.of rfl (hts0 _ nl_X10_11), ?_⟩
    refine List.forall_mem_cons.mpr ⟨va_Nw.of rfl (hts0 _ nl_X10_18), ?_⟩
    refine List.forall_mem_cons.mpr ⟨va_Nw.of rfl (hts0 _ nl_X7_21), ?_⟩
    refine List.forall_mem_cons.mpr ⟨va_Nw.of rfl (hts0 _ nl_X10_37), ?_⟩
    refine List.forall_mem_cons.mpr ⟨va_Nw.of rfl (hts0 _ nl_X10_44), ?_⟩
    refine List.forall_mem_cons.mpr ⟨va_Nw.of rfl (hts0 _ nl_X10_51), ?_⟩
    refine List.forall_mem_cons.mpr ⟨va_Nw.of rfl (hts0 _ nl_X10_58), ?_⟩
    refine List.forall_mem_cons.mpr ⟨va_Nw.of rfl (hts0 _ nl_X10_65), ?_⟩
    refine List.forall_mem_cons.mpr ⟨va_Nw.of rfl (hts0 _ nl_X9_11), ?_⟩
    refine List.forall_mem_cons.mpr ⟨va_Nw.of rfl (hts0 _ nl_X10_72), ?_⟩
    refine List.forall_mem_cons.mpr ⟨va_Nw.of rfl (hts0 _ nl_X8_102), ?_⟩
    exact fun _ h => absurd h List.not_mem_nil
  generalize hw : (((dC, dI), fun i => [cI, cZ, cM, cA].getD i cI) : WX) = w at hKK
  have hl := lv_entry ([.ref b]) (n := 4) (Nat.le_of_ble_eq_true rfl)
  rw [lg_entry_eq]
  generalize (lg_sl ([.ref b]) ++ List.replicate (4 - (lg_sl ([.ref b])).length) Slot.unset).toArray = ls at hl ⊢
  have hl : lv_has ls 4 [(0, .ref b)] := hl
  have hbl2 : b < s.heap.size := hbl
  obtain ⟨a, ha⟩ : ∃ a, s.heap.size = a := ⟨_, rfl⟩
  have C : Cc w a (p, l, e, room_1, s, m, #[Value.ref b], below, meth, c, 4, lw_Z below #[Value.ref b] s) cL_law RL 4 9 310 600000 7302250 := ⟨hx, hb, hml, rfl, hown, hts, hKK, by decide, by decide, by decide, by decide, Nat.le_of_eq ha.symm⟩
  suffices G : Gc w a (p, l, e, room_1, s, m, #[Value.ref b], below, meth, c, 4, lw_Z below #[Value.ref b] s) 0 [(0, .ref b)] [] [] 0 0 from G s.heap [] ls (fun k q h => by simp [wl] at h) (by rw [ha]; rfl) va_S.rf hl
  refine gc_new (ci := 10) (fs := [.null, .null, .null, .null, .null, .null, .null, .null, .null, .null]) (x := a) (kc2 := 1) (ks2 := 10) (L2 := [.inr (10, [.null, .null, .null, .null, .null, .null, .null, .null, .null, .null])]) (n := 3) C inX10z tyX10_ok lk_L_7 it_X10 ini_X10 rfl (fun j hj => by rcases (show j = 0 ∨ j = 1 ∨ j = 2 ∨ j = 3 ∨ j = 4 ∨ j = 5 ∨ j = 6 ∨ j = 7 ∨ j = 8 ∨ j = 9 by omega) with rfl | rfl | rfl | rfl | rfl | rfl | rfl | rfl | rfl | rfl <;> rfl) rfl rfl rfl rfl (by decide) (by decide) dL_law_0 rfl ?_
  refine gc_dup (n := 4) C dL_law_3 rfl rfl ?_
  refine gc_initP (nA := 0) (L0 := []) (ye := .inr (10, [.null, .null, .null, .null, .null, .null, .null, .null, .null, .null])) (As := []) (a2 := a) (L2 := blkX10 w a) (kc2 := 86) (ks2 := 2106) (n := 7) C (fun l => mX10_init l w a) cd_X10_init im_X10_init ini_X10 ml_L_9 rfl (by decide +kernel) ⟨Nat.le_of_ble_eq_true rfl, Nat.le_of_ble_eq_true rfl⟩ rfl rfl rfl rfl (Nat.le_of_ble_eq_true rfl) rfl rfl rfl (by decide) (by decide) dL_law_4 rfl ?_
  refine gc_astore_n (n := 8) (lv2 := [(1, .ref a), (0, .ref b)]) C dL_law_7 rfl rfl (by decide) rfl ?_
  refine gc_new (ci := 11) (fs := [.int 0, .int 0, .int 0, .null, .null, .int 0, .null, .null, .null, .int 0, .int 0, .null, .null, .null, .int 0, .null, .null, .null, .int 0, .int 0, .int 0, .int 0, .int 0, .int 0, .int 0, .int 0, .null, .null, .int 0, .null, .null, .null, .null, .null, .int 0, .null, .null, .null, .null, .null, .null, .null]) (x := a + 86) (kc2 := 87) (ks2 := 2148) (L2 := blkX10 w a ++ [.inr (11, [.int 0, .int 0, .int 0, .null, .null, .int 0, .null, .null, .null, .int 0, .int 0, .null, .null, .null, .int 0, .null, .null, .null, .int 0, .int 0, .int 0, .int 0, .int 0, .int 0, .int 0, .int 0, .null, .null, .int 0, .null, .null, .null, .null, .null, .int 0, .null, .null, .null, .null, .null, .null, .null])]) (n := 11) C inX11z tyX11_ok lk_L_10 it_X11 ini_X11 rfl (fun j hj => by rcases (show j = 0 ∨ j = 1 ∨ j = 2 ∨ j = 3 ∨ j = 4 ∨ j = 5 ∨ j = 6 ∨ j = 7 ∨ j = 8 ∨ j = 9 ∨ j = 10 ∨ j = 11 ∨ j = 12 ∨ j = 13 ∨ j = 14 ∨ j = 15 ∨ j = 16 ∨ j = 17 ∨ j = 18 ∨ j = 19 ∨ j = 20 ∨ j = 21 ∨ j = 22 ∨ j = 23 ∨ j = 24 ∨ j = 25 ∨ j = 26 ∨ j = 27 ∨ j = 28 ∨ j = 29 ∨ j = 30 ∨ j = 31 ∨ j = 32 ∨ j = 33 ∨ j = 34 ∨ j = 35 ∨ j = 36 ∨ j = 37 ∨ j = 38 ∨ j = 39 ∨ j = 40 ∨ j = 41 by omega) with rfl | rfl | rfl | rfl | rfl | rfl | rfl | rfl | rfl | rfl | rfl | rfl | rfl | rfl | rfl | rfl | rfl | rfl | rfl | rfl | rfl | rfl | rfl | rfl | rfl | rfl | rfl | rfl | rfl | rfl | rfl | rfl | rfl | rfl | rfl | rfl | rfl | rfl | rfl | rfl | rfl | rfl <;> rfl) rfl rfl rfl rfl (by decide) (by decide) dL_law_8 rfl ?_
  refine gc_dup (n := 12) C dL_law_11 rfl rfl ?_
  refine gc_initP (nA := 0) (L0 := blkX10 w a) (ye := .inr (11, [.int 0, .int 0, .int 0, .null, .null, .int 0, .null, .null, .null, .int 0, .int 0, .null, .null, .null, .int 0, .null, .null, .null, .int 0, .int 0, .int 0, .int 0, .int 0, .int 0, .int 0, .int 0, .null, .null, .int 0, .null, .null, .null, .null, .null, .int 0, .null, .null, .null, .null, .null, .null, .null])) (As := []) (a2 := a + 86) (L2 := blkX10 w a ++ blkX11 w (a + 86)) (kc2 := 112) (ks2 := 4448) (n := 15) C (fun l => mX11_init l w (a + 86)) cd_X11_init im_X11_init ini_X11 ml_L_12 rfl (by decide +kernel) ⟨Nat.le_of_ble_eq_true rfl, Nat.le_of_ble_eq_true rfl⟩ rfl rfl rfl rfl (Nat.le_of_ble_eq_true rfl) rfl rfl rfl (by decide) (by decide) dL_law_12 rfl ?_
  refine gc_astore_n (n := 16) (lv2 := [(2, .ref (a + 86)), (1, .ref a), (0, .ref b)]) C dL_law_15 rfl rfl (by decide) rfl ?_
  intro H locs ls2 hP hz hS hl2
  refine W.widen (k := 600000) (n := 7302250) (by decide) (by decide) ?_
  obtain ⟨r, S2, hF⟩ := hpure L xs hL
  have hAz : ∀ q, Az (adB a) q → a ≤ q := by
    rintro q ⟨z, -, rfl⟩
    exact Nat.le_add_right _ _
  have Cg : Cx w (adB a) (p, l, e, room_1, s, m, #[Value.ref b], below, meth, c, 4, 600000, 7302250, fun _ _ => lw_Z below #[Value.ref b] s, fun q => s.heap.size ≤ q) cL_law RL 4 9 310 := ⟨hx, hb, hml, rfl, hown, hts, hKK.1, ij_B a, fun q h => by rw [ha]; exact hAz q h, hKK.2.2.2 (RX8, 102, yX10_isOutside) (by decide +kernel), Nat.le_refl _, Nat.le_refl _, Nat.le_refl _, Nat.le_refl _⟩
  refine mL_law (xs := xs) (L := L) (b0 := b) (ij_B a) Cg ⟨hX, hbl2, Nat.not_le.mpr hbl2⟩ ⟨rfl, rfl, hb, hr, hlocks, rfl, rfl, rfl, rfl⟩ S0 r S2 hF H locs ls2 (start_world w a hP) ?_ hl2
  rw [ha]
  exact hS
