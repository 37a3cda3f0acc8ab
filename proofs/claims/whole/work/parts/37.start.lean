theorem lk_L_7 : Cond.classLink RL 7 RX10 ∈ tz := tz_in 50 (by decide +kernel) (by decide +kernel)
theorem lk_L_10 : Cond.classLink RL 10 RX11 ∈ tz := tz_in 860 (by decide +kernel) (by decide +kernel)
theorem it_X10 : Cond.instantiable RX10 10 ∈ tz := tz_in 51 (by decide +kernel) (by decide +kernel)
theorem it_X11 : Cond.instantiable RX11 42 ∈ tz := tz_in 861 (by decide +kernel) (by decide +kernel)
theorem ml_L_9 : Cond.methodLink RL 9 yX10_init ∈ tz := tz_in 52 (by decide +kernel) (by decide +kernel)
theorem ml_L_12 : Cond.methodLink RL 12 yX11_init ∈ tz := tz_in 862 (by decide +kernel) (by decide +kernel)
theorem ao_M : Cond.arrayOver (.object "TannedMen$Man") ∈ lw_tbl := List.mem_of_getElem? (i := 145) (by decide +kernel)
theorem ao_I : Cond.arrayOver (.array .int) ∈ lw_tbl := List.mem_of_getElem? (i := 91) (by decide +kernel)
theorem nl_X10_11 : Cond.methodLinkNest RX10 11 yX8_init RX10 ∈ lw_tbl := List.mem_of_getElem? (i := 60) (by decide +kernel)
theorem nl_X10_18 : Cond.methodLinkNest RX10 18 yX6_init RX10 ∈ lw_tbl := List.mem_of_getElem? (i := 86) (by decide +kernel)
theorem nl_X10_37 : Cond.methodLinkNest RX10 37 yX4_init RX10 ∈ lw_tbl := List.mem_of_getElem? (i := 205) (by decide +kernel)
theorem nl_X10_44 : Cond.methodLinkNest RX10 44 yX1_init RX10 ∈ lw_tbl := List.mem_of_getElem? (i := 233) (by decide +kernel)
theorem nl_X10_51 : Cond.methodLinkNest RX10 51 yX2_init RX10 ∈ lw_tbl := List.mem_of_getElem? (i := 245) (by decide +kernel)
theorem nl_X10_58 : Cond.methodLinkNest RX10 58 yX0_init RX10 ∈ lw_tbl := List.mem_of_getElem? (i := 277) (by decide +kernel)
theorem nl_X10_65 : Cond.methodLinkNest RX10 65 yX9_init RX10 ∈ lw_tbl := List.mem_of_getElem? (i := 294) (by decide +kernel)
theorem nl_X10_72 : Cond.methodLinkNest RX10 72 yX5_init RX10 ∈ lw_tbl := List.mem_of_getElem? (i := 322) (by decide +kernel)
theorem nl_X7_21 : Cond.methodLinkNest RX7 21 yX3_init RX10 ∈ lw_tbl := List.mem_of_getElem? (i := 147) (by decide +kernel)
theorem nl_X8_102 : Cond.methodLinkNest RX8 102 yX10_isOutside RX10 ∈ lw_tbl := List.mem_of_getElem? (i := 427) (by decide +kernel)
theorem nl_X9_11 : Cond.methodLinkNest RX9 11 yX3_init RX10 ∈ lw_tbl := List.mem_of_getElem? (i := 299) (by decide +kernel)
def off (a o : Nat) : Nat := match a with
  | 0 => 0
  | 1 => 1
  | 2 => 2
  | 3 => 3 + 11 * o
  | 4 => 4 + 11 * o
  | 5 => 5 + 11 * o
  | 6 => 6 + 11 * (o / 6) + o % 6
  | 7 => 12 + 11 * o
  | 8 => 13 + 11 * o
  | 9 => 25
  | 10 => 26
  | 11 => if o = 6 then 79 else 27 + 3 * o
  | 12 => if o = 6 then 80 else 28 + 3 * o
  | 13 => if o = 6 then 81 else 29 + 3 * o
  | 14 => 45
  | 15 => 46
  | 16 => 63
  | 17 => if o < 16 then 47 + o else 48 + o
  | 18 => 66
  | 19 => 67
  | 20 => 68
  | 21 => 69
  | 22 => 70
  | 23 => 71
  | 24 => 72
  | 25 => 73
  | 26 => 74
  | 27 => 75
  | 28 => 76
  | 29 => 77
  | 30 => 78
  | 31 => 82
  | 32 => 83
  | 33 => 84
  | 34 => 85
  | 35 => 86
  | 36 => 87
  | 37 => 88
  | 38 => 89
  | 39 => 90
  | 40 => 91
  | 41 => 92
  | 42 => 93
  | 43 => 94
  | 44 => 95
  | 45 => 96
  | 46 => 97
  | 47 => 98
  | 48 => 99
  | 49 => 100
  | 50 => 101
  | 51 => 102
  | 52 => 103
  | 53 => 104
  | 54 => 105
  | 55 => 106
  | 56 => 107
  | 57 => 108
  | 58 => 109
  | 59 => 110
  | _ => 111
def adB (B : Nat) (a o : Nat) : Nat := B + off a o
theorem off_inj : ∀ z ∈ cls, ∀ z2 ∈ cls, off z.1 z.2 = off z2.1 z2.2 → z = z2 := by decide +kernel
theorem ij_B (B : Nat) : Ij (adB B) := fun z hz z2 hz2 h => off_inj z hz z2 hz2 (Nat.add_left_cancel h)
def S0 : St := fun a _ i => if a = 0 ∧ i = 2 then 1 else if a = 1 ∧ i = 4 then -1 else if a = 35 ∧ i = 19 then -1 else 0
theorem va_at_q {D : va_G} {cl : List vw_C} {q N : Nat} {cA : ClassId} {f g : Nat → Option Nat} {H : Heap} (h : va_at D cl (q, .inl (cA, N, .inr (.inr (.inr (.inr f))))) H) (e : ∀ j, j < N → f j = g j) : va_at D cl (q, .inl (cA, N, .inr (.inr (.inr (.inr g))))) H := by
  have h : H[q]? = some (vp_cell cA (N, .inr (.inr (.inr (.inr f))))) := h
  show H[q]? = some (vp_cell cA (N, .inr (.inr (.inr (.inr g)))))
  rw [h, vp_cell_q, vp_cell_q]
  exact congrArg some (arrV_ext _ _ (fun j hj => by rw [e j hj]))
set_option maxRecDepth 100000 in
set_option maxHeartbeats 8000000 in
theorem start_world (w : WX) (B : Nat) {H : Heap} (hP : va_P w.1 vwCl (wl B (blkX10 w B ++ blkX11 w (B + 86))) H) : va_P w.1 vwCl (wld w.2 (adB B) S0) H := by
  have key : ∀ (i : Nat) (e : va_E), (blkX10 w B ++ blkX11 w (B + 86))[i]? = some e → va_at w.1 vwCl (B + i, e) H := fun i e h => hP i _ (wl_get h)
  have hall : ∀ z ∈ cls, va_at w.1 vwCl (adB B z.1 z.2, en w.2 (adB B) z.1 z.2 (S0 z.1 z.2)) H := by
    unfold cls
    refine List.forall_mem_cons.mpr ⟨key 0 _ rfl, ?_⟩
    refine List.forall_mem_cons.mpr ⟨key 1 _ rfl, ?_⟩
    refine List.forall_mem_cons.mpr ⟨key 2 _ rfl, ?_⟩
    refine List.forall_mem_cons.mpr ⟨key 3 _ rfl, ?_⟩
    refine List.forall_mem_cons.mpr ⟨key 14 _ rfl, ?_⟩
    refine List.forall_mem_cons.mpr ⟨key 4 _ rfl, ?_⟩
    refine List.forall_mem_cons.mpr ⟨key 15 _ rfl, ?_⟩
    refine List.forall_mem_cons.mpr ⟨va_at_q (key 5 _ rfl) (fun j hj => by rcases (show j = 0 ∨ j = 1 ∨ j = 2 ∨ j = 3 ∨ j = 4 ∨ j = 5 by omega) with rfl | rfl | rfl | rfl | rfl | rfl <;> rfl), ?_⟩
    refine List.forall_mem_cons.mpr ⟨va_at_q (key 16 _ rfl) (fun j hj => by rcases (show j = 0 ∨ j = 1 ∨ j = 2 ∨ j = 3 ∨ j = 4 ∨ j = 5 by omega) with rfl | rfl | rfl | rfl | rfl | rfl <;> rfl), ?_⟩
    refine List.forall_mem_cons.mpr ⟨key 6 _ rfl, ?_⟩
    refine List.forall_mem_cons.mpr ⟨key 7 _ rfl, ?_⟩
    refine List.forall_mem_cons.mpr ⟨key 8 _ rfl, ?_⟩
    refine List.forall_mem_cons.mpr ⟨key 9 _ rfl, ?_⟩
    refine List.forall_mem_cons.mpr ⟨key 10 _ rfl, ?_⟩
    refine List.forall_mem_cons.mpr ⟨key 11 _ rfl, ?_⟩
    refine List.forall_mem_cons.mpr ⟨key 17 _ rfl, ?_⟩
    refine List.forall_mem_cons.mpr ⟨key 18 _ rfl, ?_⟩
    refine List.forall_mem_cons.mpr ⟨key 19 _ rfl, ?_⟩
    refine List.forall_mem_cons.mpr ⟨key 20 _ rfl, ?_⟩
    refine List.forall_mem_cons.mpr ⟨key 21 _ rfl, ?_⟩
    refine List.forall_mem_cons.mpr ⟨key 22 _ rfl, ?_⟩
    refine List.forall_mem_cons.mpr ⟨key 12 _ rfl, ?_⟩
    refine List.forall_mem_cons.mpr ⟨key 23 _ rfl, ?_⟩
    refine List.forall_mem_cons.mpr ⟨key 13 _ rfl, ?_⟩
    refine List.forall_mem_cons.mpr ⟨key 24 _ rfl, ?_⟩
    refine List.forall_mem_cons.mpr ⟨key 25 _ rfl, ?_⟩
    refine List.forall_mem_cons.mpr ⟨va_at_q (key 26 _ rfl) (fun j hj => by rcases (show j = 0 ∨ j = 1 ∨ j = 2 ∨ j = 3 ∨ j = 4 ∨ j = 5 by omega) with rfl | rfl | rfl | rfl | rfl | rfl <;> rfl), ?_⟩
    refine List.forall_mem_cons.mpr ⟨key 27 _ rfl, ?_⟩
    refine List.forall_mem_cons.mpr ⟨key 30 _ rfl, ?_⟩
    refine List.forall_mem_cons.mpr ⟨key 33 _ rfl, ?_⟩
    refine List.forall_mem_cons.mpr ⟨key 36 _ rfl, ?_⟩
    refine List.forall_mem_cons.mpr ⟨key 39 _ rfl, ?_⟩
    refine List.forall_mem_cons.mpr ⟨key 42 _ rfl, ?_⟩
    refine List.forall_mem_cons.mpr ⟨key 79 _ rfl, ?_⟩
    refine List.forall_mem_cons.mpr ⟨key 28 _ rfl, ?_⟩
    refine List.forall_mem_cons.mpr ⟨key 31 _ rfl, ?_⟩
    refine List.forall_mem_cons.mpr ⟨key 34 _ rfl, ?_⟩
    refine List.forall_mem_cons.mpr ⟨key 37 _ rfl, ?_⟩
    refine List.forall_mem_cons.mpr ⟨key 40 _ rfl, ?_⟩
    refine List.forall_mem_cons.mpr ⟨key 43 _ rfl, ?_⟩
    refine List.forall_mem_cons.mpr ⟨key 80 _ rfl, ?_⟩
    refine List.forall_mem_cons.mpr ⟨key 29 _ rfl, ?_⟩
    refine List.forall_mem_cons.mpr ⟨key 32 _ rfl, ?_⟩
    refine List.forall_mem_cons.mpr ⟨key 35 _ rfl, ?_⟩
    refine List.forall_mem_cons.mpr ⟨key 38 _ rfl, ?_⟩
    refine List.forall_mem_cons.mpr ⟨key 41 _ rfl, ?_⟩
    refine List.forall_mem_cons.mpr ⟨key 44 _ rfl, ?_⟩
    refine List.forall_mem_cons.mpr ⟨key 81 _ rfl, ?_⟩
    refine List.forall_mem_cons.mpr ⟨key 45 _ rfl, ?_⟩
    refine List.forall_mem_cons.mpr ⟨va_at_q (key 46 _ rfl) (fun j hj => by rcases (show j = 0 ∨ j = 1 ∨ j = 2 ∨ j = 3 ∨ j = 4 ∨ j = 5 ∨ j = 6 ∨ j = 7 ∨ j = 8 ∨ j = 9 ∨ j = 10 ∨ j = 11 ∨ j = 12 ∨ j = 13 ∨ j = 14 ∨ j = 15 by omega) with rfl | rfl | rfl | rfl | rfl | rfl | rfl | rfl | rfl | rfl | rfl | rfl | rfl | rfl | rfl | rfl <;> rfl), ?_⟩
    refine List.forall_mem_cons.mpr ⟨va_at_q (key 63 _ rfl) (fun j hj => by rcases (show j = 0 ∨ j = 1 by omega) with rfl | rfl <;> rfl), ?_⟩
    refine List.forall_mem_cons.mpr ⟨key 47 _ rfl, ?_⟩
    refine List.forall_mem_cons.mpr ⟨key 48 _ rfl, ?_⟩
    refine List.forall_mem_cons.mpr ⟨key 49 _ rfl, ?_⟩
    refine List.forall_mem_cons.mpr ⟨key 50 _ rfl, ?_⟩
    refine List.forall_mem_cons.mpr ⟨key 51 _ rfl, ?_⟩
    refine List.forall_mem_cons.mpr ⟨key 52 _ rfl, ?_⟩
    refine List.forall_mem_cons.mpr ⟨key 53 _ rfl, ?_⟩
    refine List.forall_mem_cons.mpr ⟨key 54 _ rfl, ?_⟩
    refine List.forall_mem_cons.mpr ⟨key 55 _ rfl, ?_⟩
    refine List.forall_mem_cons.mpr ⟨key 56 _ rfl, ?_⟩
    refine List.forall_mem_cons.mpr ⟨key 57 _ rfl, ?_⟩
    refine List.forall_mem_cons.mpr ⟨key 58 _ rfl, ?_⟩
    refine List.forall_mem_cons.mpr ⟨key 59 _ rfl, ?_⟩
    refine List.forall_mem_cons.mpr ⟨key 60 _ rfl, ?_⟩
    refine List.forall_mem_cons.mpr ⟨key 61 _ rfl, ?_⟩
    refine List.forall_mem_cons.mpr ⟨key 62 _ rfl, ?_⟩
    refine List.forall_mem_cons.mpr ⟨key 64 _ rfl, ?_⟩
    refine List.forall_mem_cons.mpr ⟨key 65 _ rfl, ?_⟩
    refine List.forall_mem_cons.mpr ⟨key 66 _ rfl, ?_⟩
    refine List.forall_mem_cons.mpr ⟨key 67 _ rfl, ?_⟩
    refine List.forall_mem_cons.mpr ⟨key 68 _ rfl, ?_⟩
    refine List.forall_mem_cons.mpr ⟨key 69 _ rfl, ?_⟩
    refine List.forall_mem_cons.mpr ⟨key 70 _ rfl, ?_⟩
    refine List.forall_mem_cons.mpr ⟨key 71 _ rfl, ?_⟩
    refine List.forall_mem_cons.mpr ⟨key 72 _ rfl, ?_⟩
    refine List.forall_mem_cons.mpr ⟨key 73 _ rfl, ?_⟩
    refine List.forall_mem_cons.mpr ⟨key 74 _ rfl, ?_⟩
    refine List.forall_mem_cons.mpr ⟨key 75 _ rfl, ?_⟩
    refine List.forall_mem_cons.mpr ⟨key 76 _ rfl, ?_⟩
    refine List.forall_mem_cons.mpr ⟨key 77 _ rfl, ?_⟩
    refine List.forall_mem_cons.mpr ⟨key 78 _ rfl, ?_⟩
    refine List.forall_mem_cons.mpr ⟨key 82 _ rfl, ?_⟩
    refine List.forall_mem_cons.mpr ⟨key 83 _ rfl, ?_⟩
    refine List.forall_mem_cons.mpr ⟨key 84 _ rfl, ?_⟩
    refine List.forall_mem_cons.mpr ⟨key 85 _ rfl, ?_⟩
    refine List.forall_mem_cons.mpr ⟨key 86 _ rfl, ?_⟩
    refine List.forall_mem_cons.mpr ⟨key 87 _ rfl, ?_⟩
    refine List.forall_mem_cons.mpr ⟨key 88 _ rfl, ?_⟩
    refine List.forall_mem_cons.mpr ⟨key 89 _ rfl, ?_⟩
    refine List.forall_mem_cons.mpr ⟨key 90 _ rfl, ?_⟩
    refine List.forall_mem_cons.mpr ⟨key 91 _ rfl, ?_⟩
    refine List.forall_mem_cons.mpr ⟨key 92 _ rfl, ?_⟩
    refine List.forall_mem_cons.mpr ⟨key 93 _ rfl, ?_⟩
    refine List.forall_mem_cons.mpr ⟨key 94 _ rfl, ?_⟩
    refine List.forall_mem_cons.mpr ⟨key 95 _ rfl, ?_⟩
    refine List.forall_mem_cons.mpr ⟨key 96 _ rfl, ?_⟩
    refine List.forall_mem_cons.mpr ⟨key 97 _ rfl, ?_⟩
    refine List.forall_mem_cons.mpr ⟨key 98 _ rfl, ?_⟩
    refine List.forall_mem_cons.mpr ⟨key 99 _ rfl, ?_⟩
    refine List.forall_mem_cons.mpr ⟨key 100 _ rfl, ?_⟩
    refine List.forall_mem_cons.mpr ⟨key 101 _ rfl, ?_⟩
    refine List.forall_mem_cons.mpr ⟨key 102 _ rfl, ?_⟩
    refine List.forall_mem_cons.mpr ⟨key 103 _ rfl, ?_⟩
    refine List.forall_mem_cons.mpr ⟨key 104 _ rfl, ?_⟩
    refine List.forall_mem_cons.mpr ⟨key 105 _ rfl, ?_⟩
    refine List.forall_mem_cons.mpr ⟨key 106 _ rfl, ?_⟩
    refine List.forall_mem_cons.mpr ⟨key 107 _ rfl, ?_⟩
    refine List.forall_mem_cons.mpr ⟨key 108 _ rfl, ?_⟩
    refine List.forall_mem_cons.mpr ⟨key 109 _ rfl, ?_⟩
    refine List.forall_mem_cons.mpr ⟨key 110 _ rfl, ?_⟩
    refine List.forall_mem_cons.mpr ⟨key 111 _ rfl, ?_⟩
    exact fun _ h => absurd h List.not_mem_nil
  intro i q hq
  obtain ⟨z, hz, rfl⟩ := wld_at hq
  exact hall z (List.mem_of_getElem? hz)
