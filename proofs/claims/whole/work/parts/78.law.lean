/-! the law from its entry: what the tables and the statics give, the two objects, the loop -/
section LAWN
variable {G : xG} {b L : Nat} {xs : Nat → Int32} {kc kn pc : Nat} {Lc : List (Option Value)} {st st0 : List Value} {z : xZ} {v : xS}
set_option maxRecDepth 100000 in
theorem LW_new {idx a c : Nat} (hd : decode cL_law pc = .ok (.new idx, 3)) (hc : c < 7) (hs : SH a = (c, xcN c)) (hcl : Cond.classLink RL idx (xcn c) ∈ xgt) (hin : Cond.instantiable (xcn c) (xcN c) ∈ xgt) (hini : Cond.initialized (xcn c) ∈ xgt) (ha : a ∉ z.1) (hz : Zc z) (hst : nst a) (hr : nref a Lc st) (h1 : kc + 1 ≤ 600000) (h2 : kn + xcN c ≤ 7302250)
    (kk : LW G b L xs (kc + 1) (kn + xcN c) (pc + 3) Lc (.ref a :: st) (nz z a) (nv v a)) : LW G b L xs kc kn pc Lc st z v := by
  intro ρ0 p e s m below meth c' C ρ H locs ls g hP hD hS hl
  have C0 := C
  obtain ⟨⟨hx, hb, hr', hml, hown, hts, hX, hbl, hlk2, hgv⟩, hK, hSt, h30⟩ := C
  have ht : ∀ {w : Cond}, w ∈ xgt → w.before #[Value.ref b] s = true := fun h => hts _ (xgt_tbl h)
  refine va_new (D := G.2.1) (cl := vwCl) (ci := c) (C := xcn c) (T := xct c) (N := xcN c) hx hb hts (fun w hw => xgt_tbl (xct_in hc w hw)) (xcy c) (xct_ty hc) hown (ht hcl) (ht hin) (ht hini) hK hP hD hS (fun q hq => Or.inr hq) (xcl_at hc) (fs := (List.range (xcN c)).map (xfv ρ c (fun _ => none) (fun _ => 0) (fun _ => 0))) (fun j hj => ?_) h1 h2 hd (fun q H1 hP1 hD1 hS1 => ?_)
  · have hN := xcN_le c hc
    rw [xdef_ok c hc j (by omega) hj]
    unfold vp_V xfv
    simp [hj]
    rfl
  · have e1 : xE G (va_up ρ a q) (nz z a) (nv v a) a = .inr (c, (List.range (xcN c)).map (xfv ρ c (fun _ => none) (fun _ => 0) (fun _ => 0))) := by
      rw [xE_obj hs hc]
      congr 2
      apply List.map_congr_left
      intro k _
      unfold xfv nz nv va_up
      simp
    rw [← e1, ← xws_new ha hz] at hP1 hD1
    have k0 := kk ρ0 p e s m below meth c' C0 (va_up ρ a q) H1 locs ls (g.grow ha hst) hP1 hD1 hS1 (by unfold xLH; rw [xprs_congr Lc 0 (fun w hw => xtr_up (hr.2 w hw))]; exact hl)
    rw [List.map_cons, map_congr_ref (fun w hw => xtr_up (hr.1 w hw)), xtr_ref] at k0
    have e2 : va_up ρ a q a = q := by simp [va_up]
    rw [e2] at k0
    exact k0
theorem LW_ctor {d' mc' ms' idx a : Nat} {y' : MethodName} {cc' : ByteArray} {nL' : Nat} {Z1 : xZ} {V1 : xS} (hd : decode cL_law pc = .ok (.invokespecial idx, 3)) (hm : xmv y' cc' nL' none 0) (hi : y'.name = "<init>" ∧ Cond.instanceMethod y' ∈ xgt) (hlk : Cond.methodLink RL idx y' ∈ xgt) (hdd : d' ≤ 1000) (hst : (st.map fun w => w.category).sum ≤ 8) (h1 : kc + mc' ≤ 600000) (h2 : kn + ms' ≤ 7302250) (hlv : (∀ w, w ∈ st → stays z Z1 w) ∧ ∀ w, some w ∈ Lc → stays z Z1 w)
    (hok : Ok G d' mc' ms' y' cc' nL' none [.ref a] z v (fun r z1 v1 => r = none ∧ z1 = Z1 ∧ v1 = V1)) (kk : LW G b L xs (kc + mc') (kn + ms') (pc + 3) Lc st Z1 V1) : LW G b L xs kc kn pc Lc (.ref a :: st) z v := by
  intro ρ0 p e s m below meth c' C ρ H locs ls g hP hD hS hl
  have C0 := C
  obtain ⟨⟨hx, hb, hr', hml, hown, hts, hX, hbl, hlk2, hgv⟩, hK, hSt, h30⟩ := C
  have ht : ∀ {w : Cond}, w ∈ xgt → w.before #[Value.ref b] s = true := fun h => hts _ (xgt_tbl h)
  have hrun := va_runI (l := G.1) (e := e) (R := room_1) (below := below) (meth := meth) (locs := locs) (cells := kc) (slots := kn) (g := F0 m pc ls ((.ref a :: st).map (xtr ρ))) (As := []) (rest := st.map (xtr ρ)) (b := ρ a) ⟨hx, hb, hml, hown, hts⟩ (hok ρ H.size)
    ⟨callB_of (R := room_1) 0 hts (lw_good hm.1.1) rfl rfl rfl (ht hm.1.2) (ht hlk) hm.2.2 (lroom hdd hm.2.1), hi.1, ht hi.2⟩
    ⟨xPre.blind, fun U hU hW => ⟨rfl, lPre C0 g hP hD hS hU hW⟩⟩ rfl (by simp) hl.1 (by simp [xtr_ref]) (lv_room (xstk ρ [] st hst)) hd ⟨h1, h2⟩
  refine lcont hD hS hrun (fun r z1 v1 ρ1 H1 locs1 hq1 hg1 hP1 hD1 hS1 => ?_)
  obtain ⟨e1, e2, e3⟩ := hq1
  subst e1 e2 e3
  have k0 := kk ρ0 p e s m below meth c' C0 ρ1 H1 locs1 ls (g.trans hg1) hP1 hD1 hS1 (by unfold xLH; rw [xprs_congr Lc 0 (fun w h => stays_tr hg1 (hlv.2 w h))]; exact hl)
  rw [map_congr_ref (fun w h => stays_tr hg1 (hlv.1 w h))] at k0
  exact k0
theorem LW_dup {a : Value} (hd : decode cL_law pc = .ok (.dup, 1)) (ha : a.category = 1) (k : LW G b L xs kc kn (pc + 1) Lc (a :: a :: st) z v) : LW G b L xs kc kn pc Lc (a :: st) z v := by
  intro ρ0 p e s m below meth c' C ρ H locs ls g hP hD hS hl
  exact lv_dup C.1.1 C.1.2.1 hd ((xtr_cat ρ a).trans ha) (k ρ0 p e s m below meth c' C ρ H locs ls g hP hD hS hl)
theorem LW_astore {j : Fin 4} {i : Nat} {x : Nat} {L' : List (Option Value)} (hd : decode cL_law pc = .ok (.astore_n j, 1)) (hi : (j : Nat) = i) (hn : i < 4) (hL : xs1 Lc i (.ref x) = L') (k : LW G b L xs kc kn (pc + 1) L' st z v) : LW G b L xs kc kn pc Lc (.ref x :: st) z v := by
  intro ρ0 p e s m below meth c' C ρ H locs ls g hP hD hS hl
  subst hL
  exact lv_astore_n C.1.1 C.1.2.1 hd hi hl hn rfl (fun ls' hl' => (k ρ0 p e s m below meth c' C ρ H locs ls' g hP hD hS (xLH.of1 (v := .ref x) hl')))
theorem LW_istore {j : Fin 4} {i : Nat} {x : Int32} {L' : List (Option Value)} (hd : decode cL_law pc = .ok (.istore_n j, 1)) (hi : (j : Nat) = i) (hn : i < 4) (hL : xs1 Lc i (.int x) = L') (k : LW G b L xs kc kn (pc + 1) L' st z v) : LW G b L xs kc kn pc Lc (.int x :: st) z v := by
  intro ρ0 p e s m below meth c' C ρ H locs ls g hP hD hS hl
  subst hL
  exact lv_istore_n C.1.1 C.1.2.1 hd hi hl hn rfl (fun ls' hl' => (k ρ0 p e s m below meth c' C ρ H locs ls' g hP hD hS (xLH.of1 (v := .int x) hl')))
theorem LW_iconst {n : Int} {x : Int32} (hd : decode cL_law pc = .ok (.iconst n, 1)) (hv : Int32.ofInt n = x) (k : LW G b L xs kc kn (pc + 1) Lc (.int x :: st) z v) : LW G b L xs kc kn pc Lc st z v := by
  intro ρ0 p e s m below meth c' C ρ H locs ls g hP hD hS hl
  exact lv_iconst C.1.1 C.1.2.1 hd hv (k ρ0 p e s m below meth c' C ρ H locs ls g hP hD hS hl)
set_option maxRecDepth 100000 in
/-- THE LOOP -/
theorem lw_loop (hL : L ≤ 384) : ∀ (n i kc kn : Nat) (z : xZ) (v : xS) (R : xR), ZZ z → InvR z v R → L ≤ i + 6 * n → i ≤ 384 → kc + 9 * n ≤ 600000 → kn + 874 * n ≤ 7302250 → LW G b L xs kc kn 18 [some (.ref 300), some (.ref 0), some (.ref 200), some (.int (nI i))] [] z v := by
  intro n
  induction n with
  | zero =>
    intro i kc kn z v R Z hI h1 h2 h3 h4
    exact LW_head Z.n300 hL (by omega) (by omega) (by omega) (fun h => absurd h (by omega)) (fun h => absurd h (by omega))
  | succ n ih =>
    intro i kc kn z v R Z hI h1 h2 h3 h4
    have nxt : i + 6 ≤ L → LNext G b L xs kc kn i := fun h z1 v1 R1 kc1 kn1 Z1 I1 q1 q2 => LW_next (ih (i + 6) kc1 kn1 z1 v1 R1 Z1 I1 (by omega) (by omega) (by omega) (by omega))
    exact LW_head Z.n300 hL (by omega) (by omega) (by omega) (fun h => lc_all Z hI h hL (by omega) (by omega) (nxt h)) (fun h => nxt h z v R kc kn Z hI (by omega) (by omega))
def vE : xS := (fun _ _ => 0, fun _ _ => 0)
theorem st_nil {z1 : xZ} : ∀ w, w ∈ ([] : List Value) → stays z z1 w := fun w hw => absurd hw List.not_mem_nil
theorem f0_zm : 0 ∈ zt0.1 := by decide +kernel
theorem f0_zu : 0 ∈ zu0.1 ∧ 200 ∈ zu0.1 := by decide +kernel
theorem f300_zm : 300 ∉ zm27.1 := by decide +kernel
theorem f300_zF : 300 ∉ zF.1 := by decide +kernel
theorem f200_zm : 200 ∉ zm27.1 := by decide +kernel
/-- THE LAW, from pc 0 -/
theorem lw_enter (hL : L ≤ 384) : LW G b L xs 0 0 0 [some (.ref 300), none, none, none] [] zE vE := by
  refine LW_new (a := 0) (c := 5) dL_law_0 (by decide) (by decide +kernel) cl_L_7 in_X5 iz_X5 List.not_mem_nil (fun b hb => absurd hb List.not_mem_nil) (by unfold nst; decide) (by constructor <;> simp) (by decide) (by decide) ?_
  refine LW_dup dL_law_3 rfl ?_
  refine LW_ctor (d' := 2) (mc' := 54) (ms' := 1701) (Z1 := zm27) (V1 := vm29) dL_law_4 mv_X5_init ii_X5 ml_L_9 (by decide) (by decide) (by decide) (by decide) ⟨fun w hw x hx => ?_, fun w hw x hx => ?_⟩ (oc_X5 (d := 0)) ?_
  · subst hx
    simp at hw
    subst hw
    exact Or.inl f0_zm
  · subst hx
    simp at hw
    subst hw
    exact Or.inr f300_zm
  refine LW_astore (L' := [some (.ref 300), some (.ref 0), none, none]) dL_law_7 rfl (by decide) rfl ?_
  refine LW_new (a := 200) (c := 6) dL_law_8 (by decide) (by decide +kernel) cl_L_10 in_X6 iz_X6 f200_zm zc_zm27 (by unfold nst; decide) (by constructor <;> simp) (by decide) (by decide) ?_
  refine LW_dup dL_law_11 rfl ?_
  refine LW_ctor (d' := 1) (mc' := 25) (ms' := 4462) (Z1 := zF) (V1 := vF) dL_law_12 mv_X6_init ii_X6 ml_L_12 (by decide) (by decide) (by decide) (by decide) ⟨fun w hw x hx => ?_, fun w hw x hx => ?_⟩ (oc_X6 (d := 0)) ?_
  · subst hx
    simp at hw
    subst hw
    exact Or.inl f0_zu.2
  · subst hx
    simp at hw
    rcases hw with hw | hw
    · subst hw
      exact Or.inr f300_zF
    · subst hw
      exact Or.inl f0_zu.1
  refine LW_astore (L' := [some (.ref 300), some (.ref 0), some (.ref 200), none]) dL_law_15 rfl (by decide) rfl ?_
  refine LW_iconst (x := nI 0) dL_law_16 (by decide) ?_
  refine LW_istore (L' := [some (.ref 300), some (.ref 0), some (.ref 200), some (.int (nI 0))]) dL_law_17 rfl (by decide) rfl ?_
  exact lw_loop hL 64 0 _ _ zF vF R0 ZZ_F Inv_F (by omega) (by omega) (by decide) (by decide)
end LAWN
