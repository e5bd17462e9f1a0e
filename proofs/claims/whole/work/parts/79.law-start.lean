/-! what the start gives: classes, array classes, statics, nest words -/
theorem tb_at {w : Cond} (i : Nat) (h : lw_tbl[i]? = some w) : w ∈ lw_tbl := List.mem_of_getElem? h
theorem xNest_tbl : ∀ w ∈ xNest, w ∈ lw_tbl := by
  intro w hw
  simp only [xNest, List.mem_cons, List.not_mem_nil, or_false] at hw
  rcases hw with rfl | rfl | rfl | rfl | rfl | rfl | rfl | rfl
  · exact tb_at 446 (by decide +kernel)
  · exact tb_at 505 (by decide +kernel)
  · exact tb_at 532 (by decide +kernel)
  · exact tb_at 534 (by decide +kernel)
  · exact tb_at 116 (by decide +kernel)
  · exact tb_at 147 (by decide +kernel)
  · exact tb_at 101 (by decide +kernel)
  · exact tb_at 282 (by decide +kernel)
section ST
variable {s : State} {b : Nat}
theorem st_nest (hts : ∀ w ∈ lw_tbl, w.before #[Value.ref b] s = true) : ∀ w ∈ xNest, va_Nw w s := by
  intro w hw
  have h0 := hts w (xNest_tbl w hw)
  simp only [xNest, List.mem_cons, List.not_mem_nil, or_false] at hw
  rcases hw with rfl | rfl | rfl | rfl | rfl | rfl | rfl | rfl
  · exact va_Nw.of rfl h0
  · exact va_Nw.of rfl h0
  · exact va_Nw.of rfl h0
  · exact va_Nw.of rfl h0
  · exact va_Nw.of rfl h0
  · exact va_Nw.of rfl h0
  · exact h0
  · exact h0
theorem st_0 (hts : ∀ w ∈ lw_tbl, w.before #[Value.ref b] s = true) (hgv : (Jvm.Cond.and given_1 narrow_1).before #[Value.ref b] s = true) : ∃ t : Nat, va_Z "MovingHills" (xSn 0) "[I" (.ref t) (va_A [] s.heap.size) s s.heap ∧ va_T .int t 6 (fun j => .int ((xSv 0).getD j 0)) (va_A [] s.heap.size) s s.heap := by
  have hs := flat_of_before _ hgv
  have hel : ∀ j : Nat, j < 6 → (Term.elem (.static "MovingHills" "LETTER" "[I") (.int (Int32.ofNat j))).eval #[Value.ref b] s none [] s = some (.int ((xSv 0).getD j 0)) := by
    intro j hj
    match j, hj with
    | 0, _ => exact va_eqt (hs (Cond.eq (.elem (.static "MovingHills" "LETTER" "[I") (.int 0)) (.int 98)) (by decide +kernel))
    | 1, _ => exact va_eqt (hs (Cond.eq (.elem (.static "MovingHills" "LETTER" "[I") (.int 1)) (.int 100)) (by decide +kernel))
    | 2, _ => exact va_eqt (hs (Cond.eq (.elem (.static "MovingHills" "LETTER" "[I") (.int 2)) (.int 112)) (by decide +kernel))
    | 3, _ => exact va_eqt (hs (Cond.eq (.elem (.static "MovingHills" "LETTER" "[I") (.int 3)) (.int 99)) (by decide +kernel))
    | 4, _ => exact va_eqt (hs (Cond.eq (.elem (.static "MovingHills" "LETTER" "[I") (.int 4)) (.int 116)) (by decide +kernel))
    | 5, _ => exact va_eqt (hs (Cond.eq (.elem (.static "MovingHills" "LETTER" "[I") (.int 5)) (.int 101)) (by decide +kernel))
  obtain ⟨t, h1, h2⟩ := va_Tof (tm := .static "MovingHills" "LETTER" "[I") (ty := .int) (N := 6) (f := fun j => .int ((xSv 0).getD j 0)) (A := va_A [] s.heap.size) (by decide) (hs (Cond.arrayOf (.static "MovingHills" "LETTER" "[I") .int) (by decide +kernel)) (va_eqt (hs (Cond.eq (.length (.static "MovingHills" "LETTER" "[I")) (.int 6)) (by decide +kernel))) hel (fun a ha => nA ha)
  exact ⟨t, va_Zof (hts (.laysStatic "MovingHills" "LETTER" "[I") (tb_at 447 (by decide +kernel))) (hts (.initialized "MovingHills") (tb_at 76 (by decide +kernel))) h1 (fun a ha => nA ha), h2⟩
theorem st_1 (hts : ∀ w ∈ lw_tbl, w.before #[Value.ref b] s = true) (hgv : (Jvm.Cond.and given_1 narrow_1).before #[Value.ref b] s = true) : ∃ t : Nat, va_Z "MovingHills" (xSn 1) "[I" (.ref t) (va_A [] s.heap.size) s s.heap ∧ va_T .int t 6 (fun j => .int ((xSv 1).getD j 0)) (va_A [] s.heap.size) s s.heap := by
  have hs := flat_of_before _ hgv
  have hel : ∀ j : Nat, j < 6 → (Term.elem (.static "MovingHills" "IS" "[I") (.int (Int32.ofNat j))).eval #[Value.ref b] s none [] s = some (.int ((xSv 1).getD j 0)) := by
    intro j hj
    match j, hj with
    | 0, _ => exact va_eqt (hs (Cond.eq (.elem (.static "MovingHills" "IS" "[I") (.int 0)) (.int 1)) (by decide +kernel))
    | 1, _ => exact va_eqt (hs (Cond.eq (.elem (.static "MovingHills" "IS" "[I") (.int 1)) (.int 3)) (by decide +kernel))
    | 2, _ => exact va_eqt (hs (Cond.eq (.elem (.static "MovingHills" "IS" "[I") (.int 2)) (.int 5)) (by decide +kernel))
    | 3, _ => exact va_eqt (hs (Cond.eq (.elem (.static "MovingHills" "IS" "[I") (.int 3)) (.int 9)) (by decide +kernel))
    | 4, _ => exact va_eqt (hs (Cond.eq (.elem (.static "MovingHills" "IS" "[I") (.int 4)) (.int 19)) (by decide +kernel))
    | 5, _ => exact va_eqt (hs (Cond.eq (.elem (.static "MovingHills" "IS" "[I") (.int 5)) (.int 37)) (by decide +kernel))
  obtain ⟨t, h1, h2⟩ := va_Tof (tm := .static "MovingHills" "IS" "[I") (ty := .int) (N := 6) (f := fun j => .int ((xSv 1).getD j 0)) (A := va_A [] s.heap.size) (by decide) (hs (Cond.arrayOf (.static "MovingHills" "IS" "[I") .int) (by decide +kernel)) (va_eqt (hs (Cond.eq (.length (.static "MovingHills" "IS" "[I")) (.int 6)) (by decide +kernel))) hel (fun a ha => nA ha)
  exact ⟨t, va_Zof (hts (.laysStatic "MovingHills" "IS" "[I") (tb_at 506 (by decide +kernel))) (hts (.initialized "MovingHills") (tb_at 76 (by decide +kernel))) h1 (fun a ha => nA ha), h2⟩
theorem st_2 (hts : ∀ w ∈ lw_tbl, w.before #[Value.ref b] s = true) (hgv : (Jvm.Cond.and given_1 narrow_1).before #[Value.ref b] s = true) : ∃ t : Nat, va_Z "MovingHills" (xSn 2) "[I" (.ref t) (va_A [] s.heap.size) s s.heap ∧ va_T .int t 6 (fun j => .int ((xSv 2).getD j 0)) (va_A [] s.heap.size) s s.heap := by
  have hs := flat_of_before _ hgv
  have hel : ∀ j : Nat, j < 6 → (Term.elem (.static "MovingHills" "MOST_INCHES" "[I") (.int (Int32.ofNat j))).eval #[Value.ref b] s none [] s = some (.int ((xSv 2).getD j 0)) := by
    intro j hj
    match j, hj with
    | 0, _ => exact va_eqt (hs (Cond.eq (.elem (.static "MovingHills" "MOST_INCHES" "[I") (.int 0)) (.int 1)) (by decide +kernel))
    | 1, _ => exact va_eqt (hs (Cond.eq (.elem (.static "MovingHills" "MOST_INCHES" "[I") (.int 1)) (.int 2)) (by decide +kernel))
    | 2, _ => exact va_eqt (hs (Cond.eq (.elem (.static "MovingHills" "MOST_INCHES" "[I") (.int 2)) (.int 1)) (by decide +kernel))
    | 3, _ => exact va_eqt (hs (Cond.eq (.elem (.static "MovingHills" "MOST_INCHES" "[I") (.int 3)) (.int 1)) (by decide +kernel))
    | 4, _ => exact va_eqt (hs (Cond.eq (.elem (.static "MovingHills" "MOST_INCHES" "[I") (.int 4)) (.int 2)) (by decide +kernel))
    | 5, _ => exact va_eqt (hs (Cond.eq (.elem (.static "MovingHills" "MOST_INCHES" "[I") (.int 5)) (.int 1)) (by decide +kernel))
  obtain ⟨t, h1, h2⟩ := va_Tof (tm := .static "MovingHills" "MOST_INCHES" "[I") (ty := .int) (N := 6) (f := fun j => .int ((xSv 2).getD j 0)) (A := va_A [] s.heap.size) (by decide) (hs (Cond.arrayOf (.static "MovingHills" "MOST_INCHES" "[I") .int) (by decide +kernel)) (va_eqt (hs (Cond.eq (.length (.static "MovingHills" "MOST_INCHES" "[I")) (.int 6)) (by decide +kernel))) hel (fun a ha => nA ha)
  exact ⟨t, va_Zof (hts (.laysStatic "MovingHills" "MOST_INCHES" "[I") (tb_at 535 (by decide +kernel))) (hts (.initialized "MovingHills") (tb_at 76 (by decide +kernel))) h1 (fun a ha => nA ha), h2⟩
theorem st_3 (hts : ∀ w ∈ lw_tbl, w.before #[Value.ref b] s = true) (hgv : (Jvm.Cond.and given_1 narrow_1).before #[Value.ref b] s = true) : ∃ t : Nat, va_Z "MovingHills" (xSn 3) "[I" (.ref t) (va_A [] s.heap.size) s s.heap ∧ va_T .int t 6 (fun j => .int ((xSv 3).getD j 0)) (va_A [] s.heap.size) s s.heap := by
  have hs := flat_of_before _ hgv
  have hel : ∀ j : Nat, j < 6 → (Term.elem (.static "MovingHills" "LEAST_HIGH" "[I") (.int (Int32.ofNat j))).eval #[Value.ref b] s none [] s = some (.int ((xSv 3).getD j 0)) := by
    intro j hj
    match j, hj with
    | 0, _ => exact va_eqt (hs (Cond.eq (.elem (.static "MovingHills" "LEAST_HIGH" "[I") (.int 0)) (.int 1)) (by decide +kernel))
    | 1, _ => exact va_eqt (hs (Cond.eq (.elem (.static "MovingHills" "LEAST_HIGH" "[I") (.int 1)) (.int 1)) (by decide +kernel))
    | 2, _ => exact va_eqt (hs (Cond.eq (.elem (.static "MovingHills" "LEAST_HIGH" "[I") (.int 2)) (.int 2)) (by decide +kernel))
    | 3, _ => exact va_eqt (hs (Cond.eq (.elem (.static "MovingHills" "LEAST_HIGH" "[I") (.int 3)) (.int 1)) (by decide +kernel))
    | 4, _ => exact va_eqt (hs (Cond.eq (.elem (.static "MovingHills" "LEAST_HIGH" "[I") (.int 4)) (.int 1)) (by decide +kernel))
    | 5, _ => exact va_eqt (hs (Cond.eq (.elem (.static "MovingHills" "LEAST_HIGH" "[I") (.int 5)) (.int 2)) (by decide +kernel))
  obtain ⟨t, h1, h2⟩ := va_Tof (tm := .static "MovingHills" "LEAST_HIGH" "[I") (ty := .int) (N := 6) (f := fun j => .int ((xSv 3).getD j 0)) (A := va_A [] s.heap.size) (by decide) (hs (Cond.arrayOf (.static "MovingHills" "LEAST_HIGH" "[I") .int) (by decide +kernel)) (va_eqt (hs (Cond.eq (.length (.static "MovingHills" "LEAST_HIGH" "[I")) (.int 6)) (by decide +kernel))) hel (fun a ha => nA ha)
  exact ⟨t, va_Zof (hts (.laysStatic "MovingHills" "LEAST_HIGH" "[I") (tb_at 533 (by decide +kernel))) (hts (.initialized "MovingHills") (tb_at 76 (by decide +kernel))) h1 (fun a ha => nA ha), h2⟩
theorem st_in (hts : ∀ w ∈ lw_tbl, w.before #[Value.ref b] s = true) : ∀ c, ∃ q : ClassId × (Nat → Nat), c < 7 → u_Kn s (xcn c) (xct c) (xcN c) q.1 q.2 := by
  intro c
  by_cases hc : c < 7
  · have hin : Cond.instantiable (xcn c) (xcN c) ∈ xgt := by
      match c, hc with
      | 0, _ => exact in_X0
      | 1, _ => exact in_X1
      | 2, _ => exact in_X2
      | 3, _ => exact in_X3
      | 4, _ => exact in_X4
      | 5, _ => exact in_X5
      | 6, _ => exact in_X6
    obtain ⟨cC, iS, h⟩ := u_known (C := xcn c) (T := xct c) (N := xcN c) (n := xcN c) hts (fun w hw => xgt_tbl (xct_in hc w hw)) (hts _ (xgt_tbl hin))
    exact ⟨(cC, iS), fun _ => h⟩
  · exact ⟨(0, fun _ => 0), fun h => absurd h hc⟩
theorem st_K (l : Launch) (hts : ∀ w ∈ lw_tbl, w.before #[Value.ref b] s = true) : ∃ (D : va_G) (f : Nat → ClassId), va_K D vwCl (xtys (l, D, f)) s := by
  have hk := st_in hts
  obtain ⟨cI, kI, oI, i1, i2, i3⟩ := Cond.arrayClass_spec (hts _ (xgt_tbl w_ai))
  obtain ⟨cZ, kZ, oZ, j1, j2, j3⟩ := Cond.arrayClass_spec (hts _ (xgt_tbl w_az))
  obtain ⟨oL, cL, kL, l1, -, l3, l4, l5⟩ := Cond.arrayOver_spec (hts (.arrayOver (.object "MovingHills$Land")) (tb_at 282 (by decide +kernel)))
  obtain ⟨oA, cA, kA, a1, a4, a2, a3⟩ := gm_over (ty := .int) (U := s) (hts (.arrayOver (.array .int)) (tb_at 101 (by decide +kernel)))
  refine ⟨(fun c => (Classical.choose (hk c)).1, fun c => (Classical.choose (hk c)).2), fun t => if t = 10 then cI else if t = 13 then cZ else if t = 11 then cL else cA, fun c q hq => ?_, fun k q hq => ?_⟩
  · have hc : c < 7 := (List.getElem?_eq_some_iff.mp hq).1
    rw [xcl_at hc] at hq
    injection hq with hq
    subst hq
    exact Classical.choose_spec (hk c) hc
  · match k, hq with
    | 0, hq =>
      cases hq
      exact ⟨fun N z => ⟨(fun k h => by cases h), kI, i2, oI, i3⟩, i1⟩
    | 1, hq =>
      cases hq
      exact ⟨fun N z => ⟨(fun k h => by cases h), kZ, j2, oZ, j3⟩, j1⟩
    | 2, hq =>
      cases hq
      exact ⟨fun N z => ⟨(fun k h => by cases h), kL, l3, oL, l4⟩, kL, oL, l3, l4, l1, l5⟩
    | 3, hq =>
      cases hq
      exact ⟨fun N z => ⟨(fun k h => by cases h), kA, a2, oA, a3⟩, a4⟩
    | k + 4, hq => simp [xtys] at hq
end ST
/-- THE LAW, from its entry -/
theorem whole_start {p : Program} {e : Env} {s : State} {m : MethodId} {below : List Frame} {meth : Method} {c : Code} (l : Launch) {b L : Nat} {xs : Nat → Int32} (hL : L ≤ 384) (C0 : lw_At p s m meth c b L xs) : W p l e room_1 s m #[Value.ref b] below meth c s.heap [] 0 0 (lw_Z below #[Value.ref b] s) (entryFrame m ([Value.ref b] : List Value).toArray 4) := by
  obtain ⟨hx, hb, hr, hml, hown, hts, hX, hbl, hlocks, hgv⟩ := id C0
  obtain ⟨D, f, hK⟩ := st_K l hts
  obtain ⟨t0, z0, y0⟩ := st_0 hts hgv
  obtain ⟨t1, z1, y1⟩ := st_1 hts hgv
  obtain ⟨t2, z2, y2⟩ := st_2 hts hgv
  obtain ⟨t3, z3, y3⟩ := st_3 hts hgv
  have hl := lv_entry ([.ref b]) (n := 4) (Nat.le_of_ble_eq_true rfl)
  rw [lg_entry_eq]
  generalize (lg_sl ([.ref b]) ++ List.replicate (4 - (lg_sl ([.ref b])).length) Slot.unset).toArray = ls at hl ⊢
  have hl : lv_has ls 4 [(0, .ref b)] := hl
  have hC : LCx (l, D, f) b L xs (fun a => if a = 110 then t0 else if a = 111 then t1 else if a = 112 then t2 else if a = 113 then t3 else b) p s m meth c := by
    refine ⟨C0, hK, ⟨fun i hi => ?_, st_nest hts⟩, rfl⟩
    match i, hi with
    | 0, _ => exact ⟨z0, y0⟩
    | 1, _ => exact ⟨z1, y1⟩
    | 2, _ => exact ⟨z2, y2⟩
    | 3, _ => exact ⟨z3, y3⟩
  exact lw_enter (G := (l, D, f)) hL _ p e s m below meth c hC _ s.heap [] ls (xGr.rf zE _) (fun k q h => by simp [xws, zE] at h) ⟨fun i j p q h => by simp [xws, zE] at h, fun k q h => by simp [xws, zE] at h⟩ va_S.rf hl
