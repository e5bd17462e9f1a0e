/-! the abstract machine: cells that are made -/
/-- a new cell a: nothing in it -/
def nz (z : xZ) (a : Nat) : xZ := (z.1 ++ [a], va_up z.2 a (fun _ => none))
def nv (v : xS) (a : Nat) : xS := (va_up v.1 a (fun _ => 0), va_up v.2 a (fun _ => 0))
/-- references lead to cells that are there -/
def Zc (z : xZ) : Prop := ∀ b, b ∈ z.1 → ∀ k x, z.2 b k = some x → x ∈ z.1
def nst (a : Nat) : Prop := ∀ i, i < 4 → 110 + i ≠ a
/-- what stands on the stack and in the locals is no new cell -/
def nref (a : Nat) (L : List (Option Value)) (st : List Value) : Prop := (∀ w, w ∈ st → w ≠ .ref a) ∧ ∀ w, some w ∈ L → w ≠ .ref a
def live (z : xZ) (L : List (Option Value)) (st : List Value) : Prop := (∀ x, .ref x ∈ st → x ∈ z.1) ∧ ∀ x, some (.ref x) ∈ L → x ∈ z.1
theorem live.nref {z : xZ} {L : List (Option Value)} {st : List Value} {a : Nat} (h : live z L st) (ha : a ∉ z.1) : nref a L st :=
  ⟨fun w hw e => ha (h.1 a (by rw [e] at hw; exact hw)), fun w hw e => ha (h.2 a (by rw [e] at hw; exact hw))⟩
theorem xtr_up {ρ : Nat → Nat} {a q : Nat} {w : Value} (h : w ≠ .ref a) : xtr (va_up ρ a q) w = xtr ρ w := by
  cases w with
  | ref x =>
    have hx : x ≠ a := fun e => h (by rw [e])
    show Value.ref (va_up ρ a q x) = .ref (ρ x)
    unfold va_up
    rw [if_neg hx]
  | _ => rfl
theorem map_congr_ref {ρ ρ' : Nat → Nat} {st : List Value} (h : ∀ w, w ∈ st → xtr ρ' w = xtr ρ w) : st.map (xtr ρ') = st.map (xtr ρ) := List.map_congr_left h
theorem xprs_congr {ρ ρ' : Nat → Nat} : ∀ (L : List (Option Value)) (k : Nat), (∀ w, some w ∈ L → xtr ρ' w = xtr ρ w) → xprs ρ' k L = xprs ρ k L
  | [], _, _ => rfl
  | none :: t, k, h => by rw [xprs, xprs, xprs_congr t (k + 1) (fun w hw => h w (List.mem_cons_of_mem _ hw))]
  | some w :: t, k, h => by rw [xprs, xprs, xprs_congr t (k + 1) (fun w hw => h w (List.mem_cons_of_mem _ hw)), h w List.mem_cons_self]
theorem xE_congr {G : xG} {ρ ρ' : Nat → Nat} {z z' : xZ} {v v' : xS} {b : Nat} (h1 : ∀ k, (z'.2 b k).map ρ' = (z.2 b k).map ρ) (h2 : v'.1 b = v.1 b) (h3 : v'.2 b = v.2 b) : xE G ρ' z' v' b = xE G ρ z v b := by
  unfold xE xEc
  rw [h2, h3]
  split
  · congr 2
    apply List.map_congr_left
    intro k _
    unfold xfv
    rw [h1 k]
  · split
    · rfl
    · rw [show (fun i => (z'.2 b i).map ρ') = (fun i => (z.2 b i).map ρ) from funext h1]
theorem map_up {ρ : Nat → Nat} {a q : Nat} {o : Option Nat} (h : o ≠ some a) : o.map (va_up ρ a q) = o.map ρ := by
  cases o with
  | none => rfl
  | some x =>
    have hx : x ≠ a := fun e => h (by rw [e])
    simp [va_up, hx]
theorem xws_new {G : xG} {ρ : Nat → Nat} {z : xZ} {v : xS} {a q : Nat} (ha : a ∉ z.1) (hc : Zc z) : xws G (va_up ρ a q) (nz z a) (nv v a) = xws G ρ z v ++ [(q, xE G (va_up ρ a q) (nz z a) (nv v a) a)] := by
  unfold xws nz
  rw [List.map_append]
  congr 1
  · apply List.map_congr_left
    intro b hb
    have hne : b ≠ a := fun e => ha (by rw [← e]; exact hb)
    have e1 : va_up ρ a q b = ρ b := by unfold va_up; rw [if_neg hne]
    rw [e1]
    congr 1
    refine xE_congr (fun k => ?_) ?_ ?_
    · have e2 : va_up z.2 a (fun _ => none) b = z.2 b := by unfold va_up; rw [if_neg hne]
      show (va_up z.2 a (fun _ => none) b k).map _ = _
      rw [e2]
      exact map_up (fun h => ha (hc b hb k a h))
    · show va_up v.1 a (fun _ => 0) b = v.1 b
      unfold va_up; rw [if_neg hne]
    · show va_up v.2 a (fun _ => 0) b = v.2 b
      unfold va_up; rw [if_neg hne]
  · simp [va_up]
theorem nz_Zc {z : xZ} {a : Nat} (h : Zc z) : Zc (nz z a) := by
  intro b hb k x hx
  unfold nz at hb hx ⊢
  dsimp only at hb hx ⊢
  unfold va_up at hx
  by_cases e : b = a
  · rw [if_pos e] at hx; exact absurd hx (by simp)
  · rw [if_neg e] at hx
    rcases List.mem_append.mp hb with hb | hb
    · exact List.mem_append_left _ (h b hb k x hx)
    · exact absurd (by simpa using hb) e
theorem wR_Zc {z : xZ} {a k x : Nat} (h : Zc z) (hx : x ∈ z.1) : Zc (wR z a k (some x)) := by
  intro b hb j y hy
  unfold wR va_up at hy
  dsimp only at hy
  by_cases e : b = a
  · rw [if_pos e] at hy
    by_cases e2 : j = k
    · rw [if_pos e2] at hy
      injection hy with hy
      rw [← hy]
      exact hx
    · rw [if_neg e2, ← e] at hy
      exact h b hb j y hy
  · rw [if_neg e] at hy
    exact h b hb j y hy
theorem xGr.grow {z0 z : xZ} {ρ0 ρ : Nat → Nat} {a q : Nat} (h : xGr z0 ρ0 z ρ) (ha : a ∉ z.1) (hs : nst a) : xGr z0 ρ0 (nz z a) (va_up ρ a q) := by
  refine ⟨fun b hb => List.mem_append_left _ (h.1 b hb), fun b hb => ?_, fun i hi => ?_⟩
  · have hne : b ≠ a := by
      intro e
      rcases hb with hb | hb
      · exact ha (by rw [← e]; exact h.1 b hb)
      · exact hb (by rw [e]; exact List.mem_append_right _ (by simp))
    unfold va_up
    rw [if_neg hne]
    refine h.2.1 b ?_
    rcases hb with hb | hb
    · exact Or.inl hb
    · exact Or.inr (fun q => hb (List.mem_append_left _ q))
  · unfold va_up
    rw [if_neg (hs i hi)]
    exact h.2.2 i hi
theorem xdef_ok : ∀ c, c < 7 → ∀ j, j < 42 → j < xcN c → defaultValue (xcy c j) = (if xFK c j = 0 then .int 0 else if xFK c j = 1 then .null else .long 0) := by decide +kernel
theorem xcN_le : ∀ c, c < 7 → xcN c ≤ 42 := by decide
section ALLOC
variable {G : xG} {d mc ms : Nat} {y : MethodName} {cc : ByteArray} {nL : Nat} {ret : Option FieldType} {own : String} {kc kn pc : Nat} {L : List (Option Value)} {st : List Value} {z : xZ} {v : xS} {Q : Option Value → xZ → xS → Prop}
theorem AW_new {idx a c : Nat} (hd : decode cc pc = .ok (.new idx, 3)) (hc : c < 7) (hs : SH a = (c, xcN c)) (hcl : Cond.classLink own idx (xcn c) ∈ xgt) (hin : Cond.instantiable (xcn c) (xcN c) ∈ xgt) (hini : Cond.initialized (xcn c) ∈ xgt) (ha : a ∉ z.1) (hz : Zc z) (hst : nst a) (hr : nref a L st) (h1 : kc + 1 ≤ mc) (h2 : kn + xcN c ≤ ms)
    (kk : AW G d mc ms y cc nL ret own (kc + 1) (kn + xcN c) (pc + 3) L (.ref a :: st) (nz z a) (nv v a) Q) : AW G d mc ms y cc nL ret own kc kn pc L st z v Q := by
  intro z0 v0 ρ0 sz p e s m args below meth c' C ρ H locs ls g hP hD hS hl
  have C0 := C
  obtain ⟨hx, hb, hr', hml, hown, hts, hlk2, hnm, hsz, hK, hSt⟩ := C
  have ht : ∀ {w : Cond}, w ∈ xgt → w.before args s = true := fun h => hts _ (List.mem_cons_of_mem _ h)
  refine va_new (D := G.2.1) (cl := vwCl) (ci := c) (C := xcn c) (T := xct c) (N := xcN c) hx hb hts (fun w hw => List.mem_cons_of_mem _ (xct_in hc w hw)) (xcy c) (xct_ty hc) hown (ht hcl) (ht hin) (ht hini) hK hP hD hS (fun q hq => Or.inr (by rw [← hsz]; exact hq)) (xcl_at hc) (fs := (List.range (xcN c)).map (xfv ρ c (fun _ => none) (fun _ => 0) (fun _ => 0))) (fun j hj => ?_) h1 h2 hd (fun q H1 hP1 hD1 hS1 => ?_)
  · have hN := xcN_le c hc
    rw [xdef_ok c hc j (by omega) hj]
    unfold vp_V xfv
    simp [hj]
    rfl
  · have e1 : xE G (va_up ρ a q) (nz z a) (nv v a) a = .inr (c, (List.range (xcN c)).map (xfv ρ c (fun _ => none) (fun _ => 0) (fun _ => 0))) := by
      rw [xE_obj hs hc]
      congr 2
      apply List.map_congr_left
      intro k _
      unfold xfv nz nv va_up
      simp
    rw [← e1, ← xws_new ha hz] at hP1 hD1
    have k0 := kk z0 v0 ρ0 sz p e s m args below meth c' C0 (va_up ρ a q) H1 locs ls (g.grow ha hst) hP1 hD1 hS1 (by unfold xLH; rw [xprs_congr L 0 (fun w hw => xtr_up (hr.2 w hw))]; exact hl)
    rw [List.map_cons, map_congr_ref (fun w hw => xtr_up (hr.1 w hw)), xtr_ref] at k0
    have e2 : va_up ρ a q a = q := by simp [va_up]
    rw [e2] at k0
    exact k0
theorem AW_newI {a n : Nat} {x : Int32} (hd : decode cc pc = .ok (.newarray .int, 2)) (hs : SH a = (10, n)) (hn : x = nI n) (hn2 : n < 100000) (hw : Cond.arrayClass .int ∈ xgt) (ha : a ∉ z.1) (hz : Zc z) (hst : nst a) (hr : nref a L st) (h1 : kc + 1 ≤ mc) (h2 : kn + n ≤ ms)
    (kk : AW G d mc ms y cc nL ret own (kc + 1) (kn + n) (pc + 2) L (.ref a :: st) (nz z a) (nv v a) Q) : AW G d mc ms y cc nL ret own kc kn pc L (.int x :: st) z v Q := by
  intro z0 v0 ρ0 sz p e s m args below meth c' C ρ H locs ls g hP hD hS hl
  have C0 := C
  obtain ⟨hx, hb, hr', hml, hown, hts, hlk2, hnm, hsz, hK, hSt⟩ := C
  have ht : ∀ {w : Cond}, w ∈ xgt → w.before args s = true := fun h => hts _ (List.mem_cons_of_mem _ h)
  subst hn
  refine va_newa (D := G.2.1) (cl := vwCl) (tys := xtys G) (atype := .int) hx hb (ht hw) (ty := .int) rfl hK hP hD hS (fun q hq => Or.inr (by rw [← hsz]; exact hq)) (a0 := (n, .inl (fun _ => 0))) (fun cA => rfl) (by rw [i32lt, i32_0, nIi (by omega)]; omega) (clN (by omega)) (by show n * 4 ≤ _; omega) h1 h2 hd (fun q cA H1 hK1 hP1 hD1 hS1 => ?_)
  have ec : cA = G.2.2 10 := Option.some.inj (((hK1.2 4 _ rfl).2 : s.vm.findClass _ = some cA).symm.trans (hK.2 0 _ rfl).2)
  subst ec
  have e1 : xE G (va_up ρ a q) (nz z a) (nv v a) a = .inl (G.2.2 10, n, .inl (fun _ => 0)) := by
    rw [xE_arr hs (Or.inl rfl)]
    simp [nv, va_up]
  rw [← e1, ← xws_new ha hz] at hP1 hD1
  have k0 := kk z0 v0 ρ0 sz p e s m args below meth c' C0 (va_up ρ a q) H1 locs ls (g.grow ha hst) hP1 hD1 hS1 (by unfold xLH; rw [xprs_congr L 0 (fun w hw => xtr_up (hr.2 w hw))]; exact hl)
  rw [List.map_cons, map_congr_ref (fun w hw => xtr_up (hr.1 w hw)), xtr_ref] at k0
  have e2 : va_up ρ a q a = q := by simp [va_up]
  rw [e2] at k0
  exact k0
theorem AW_newZ {a n : Nat} {x : Int32} (hd : decode cc pc = .ok (.newarray .boolean, 2)) (hs : SH a = (13, n)) (hn : x = nI n) (hn2 : n < 100000) (hw : Cond.arrayClass .boolean ∈ xgt) (ha : a ∉ z.1) (hz : Zc z) (hst : nst a) (hr : nref a L st) (h1 : kc + 1 ≤ mc) (h2 : kn + n ≤ ms)
    (kk : AW G d mc ms y cc nL ret own (kc + 1) (kn + n) (pc + 2) L (.ref a :: st) (nz z a) (nv v a) Q) : AW G d mc ms y cc nL ret own kc kn pc L (.int x :: st) z v Q := by
  intro z0 v0 ρ0 sz p e s m args below meth c' C ρ H locs ls g hP hD hS hl
  have C0 := C
  obtain ⟨hx, hb, hr', hml, hown, hts, hlk2, hnm, hsz, hK, hSt⟩ := C
  have ht : ∀ {w : Cond}, w ∈ xgt → w.before args s = true := fun h => hts _ (List.mem_cons_of_mem _ h)
  subst hn
  refine va_newa (D := G.2.1) (cl := vwCl) (tys := xtys G) (atype := .boolean) hx hb (ht hw) (ty := .boolean) rfl hK hP hD hS (fun q hq => Or.inr (by rw [← hsz]; exact hq)) (a0 := (n, .inl (fun _ => 0))) (fun cA => rfl) (by rw [i32lt, i32_0, nIi (by omega)]; omega) (clN (by omega)) (by show n * 1 ≤ _; omega) h1 h2 hd (fun q cA H1 hK1 hP1 hD1 hS1 => ?_)
  have ec : cA = G.2.2 13 := Option.some.inj (((hK1.2 4 _ rfl).2 : s.vm.findClass _ = some cA).symm.trans (hK.2 1 _ rfl).2)
  subst ec
  have e1 : xE G (va_up ρ a q) (nz z a) (nv v a) a = .inl (G.2.2 13, n, .inl (fun _ => 0)) := by
    rw [xE_arr hs (Or.inr rfl)]
    simp [nv, va_up]
  rw [← e1, ← xws_new ha hz] at hP1 hD1
  have k0 := kk z0 v0 ρ0 sz p e s m args below meth c' C0 (va_up ρ a q) H1 locs ls (g.grow ha hst) hP1 hD1 hS1 (by unfold xLH; rw [xprs_congr L 0 (fun w hw => xtr_up (hr.2 w hw))]; exact hl)
  rw [List.map_cons, map_congr_ref (fun w hw => xtr_up (hr.1 w hw)), xtr_ref] at k0
  have e2 : va_up ρ a q a = q := by simp [va_up]
  rw [e2] at k0
  exact k0
theorem AW_newq {idx a n : Nat} {x : Int32} (hd : decode cc pc = .ok (.anewarray idx, 3)) (hcl : Cond.classLink own idx "MovingHills$Land" ∈ xgt) (hs : SH a = (11, n)) (hn : x = nI n) (hn2 : n < 100000) (ha : a ∉ z.1) (hz : Zc z) (hst : nst a) (hr : nref a L st) (h1 : kc + 1 ≤ mc) (h2 : kn + n ≤ ms)
    (kk : AW G d mc ms y cc nL ret own (kc + 1) (kn + n) (pc + 3) L (.ref a :: st) (nz z a) (nv v a) Q) : AW G d mc ms y cc nL ret own kc kn pc L (.int x :: st) z v Q := by
  intro z0 v0 ρ0 sz p e s m args below meth c' C ρ H locs ls g hP hD hS hl
  have C0 := C
  obtain ⟨hx, hb, hr', hml, hown, hts, hlk2, hnm, hsz, hK, hSt⟩ := C
  have ht : ∀ {w : Cond}, w ∈ xgt → w.before args s = true := fun h => hts _ (List.mem_cons_of_mem _ h)
  have hao : va_AO "MovingHills$Land" s := hSt.2 (.arrayOver (.object "MovingHills$Land")) (by simp [xNest])
  subst hn
  refine va_newq (D := G.2.1) (cl := vwCl) (tys := xtys G) hx hb hown (ht hcl) hao hK hP hD hS (fun q hq => Or.inr (by rw [← hsz]; exact hq)) (by rw [i32lt, i32_0, nIi (by omega)]; omega) (clN (by omega)) (by omega) h1 h2 hd (fun q cA H1 hK1 hP1 hD1 hS1 => ?_)
  have ec : cA = G.2.2 11 := by
    obtain ⟨_, _, _, _, _, r1⟩ := (hK1.2 4 _ rfl).2
    obtain ⟨_, _, _, _, _, r2⟩ := (hK.2 2 _ rfl).2
    exact Option.some.inj (r1.symm.trans r2)
  subst ec
  have e1 : xE G (va_up ρ a q) (nz z a) (nv v a) a = .inl (G.2.2 11, n, .inr (.inr (.inr (.inr (fun _ => none))))) := by
    rw [xE_arr2 hs (Or.inl rfl)]
    simp [nz, va_up]
  rw [← e1, ← xws_new ha hz] at hP1 hD1
  have k0 := kk z0 v0 ρ0 sz p e s m args below meth c' C0 (va_up ρ a q) H1 locs ls (g.grow ha hst) hP1 hD1 hS1 (by unfold xLH; rw [xprs_congr L 0 (fun w hw => xtr_up (hr.2 w hw))]; exact hl)
  rw [List.map_cons, map_congr_ref (fun w hw => xtr_up (hr.1 w hw)), xtr_ref] at k0
  have e2 : va_up ρ a q a = q := by simp [va_up]
  rw [e2] at k0
  exact k0
/-- a field put by a constructor, final or not -/
theorem AW_putG {idx a c k t : Nat} {w : Value} {z' : xZ} {v' : xS} (hd : decode cc pc = .ok (.putfield idx, 3)) (ha : xin z a c (xcN c)) (hf : xfl own idx c k t) (hy : y.name = "<init>") (hdec : (xct c k).1 = own) (hfin : (xct c k).2.2.2 = true) (hn : ∀ ρ : Nat → Nat, narrow (xcy c k) (xtr ρ w) = xtr ρ w) (hfit : ∀ ρ : Nat → Nat, fits (xcy c k) (xtr ρ w) = true)
    (hz : z'.1 = z.1) (hw : ∀ ρ : Nat → Nat, xfv ρ c (z'.2 a) (v'.1 a) (v'.2 a) k = xtr ρ w) (ho : ∀ (ρ : Nat → Nat) (j : Nat), j ≠ k → xfv ρ c (z'.2 a) (v'.1 a) (v'.2 a) j = xfv ρ c (z.2 a) (v.1 a) (v.2 a) j) (hb : ∀ b, b ≠ a → z'.2 b = z.2 b ∧ v'.1 b = v.1 b ∧ v'.2 b = v.2 b)
    (kk : AW G d mc ms y cc nL ret own kc kn (pc + 3) L st z' v' Q) : AW G d mc ms y cc nL ret own kc kn pc L (w :: .ref a :: st) z v Q := by
  intro z0 v0 ρ0 sz p e s m args below meth c' C ρ H locs ls g hP hD hS hl
  obtain ⟨q, hq0, hq⟩ := xws_at (G := G) (ρ := ρ) (v := v) ha.1
  rw [xE_obj ha.2 hf.1] at hq
  refine va_putF (D := G.2.1) (cl := vwCl) (ci := c) (C := xcn c) (T := xct c) (N := xcN c) (ty := xcy c k) C.1 C.2.1 C.2.2.2.2.2.1 (fun w hw => List.mem_cons_of_mem _ (xct_in hf.1 w hw)) (xcy c) (xct_ty hf.1) (xct_nm hf.1) C.2.2.2.2.1 C.2.2.2.2.2.2.2.2.2.1 hP hD hS q hq (xcl_at hf.1) k hf.2.1 (C.2.2.2.2.2.1 _ (List.mem_cons_of_mem _ hf.2.2.2)) (fun _ h => h) hfin (C.2.2.2.2.2.2.2.1.trans hy) hdec (xct_ty hf.1 k hf.2.1) (hn ρ) (hfit ρ) (by simpa using hf.2.1) hd (fun H1 locs1 hP1 hD1 hS1 => ?_)
  have e1 : (xws G ρ z v).set q (ρ a, .inr (c, ((List.range (xcN c)).map (xfv ρ c (z.2 a) (v.1 a) (v.2 a))).set k (xtr ρ w))) = xws G ρ z' v' := by
    refine xws_set hD hz hq0 ?_ (fun b hne => xE_ne (hb b hne).1 (hb b hne).2.1 (hb b hne).2.2)
    rw [xE_obj ha.2 hf.1, xfv_set hf.2.1 (hw ρ) (ho ρ)]
  rw [e1] at hP1 hD1
  exact kk z0 v0 ρ0 sz p e s m args below meth c' C ρ H1 locs1 ls (g.same hz) hP1 hD1 hS1 hl
theorem AW_putFR {idx a c k x : Nat} (hd : decode cc pc = .ok (.putfield idx, 3)) (ha : xin z a c (xcN c)) (hf : xfl own idx c k 1) (hy : y.name = "<init>") (hdec : (xct c k).1 = own) (hfin : (xct c k).2.2.2 = true) (hn : ∀ q : Nat, narrow (xcy c k) (.ref q) = .ref q) (hfit : ∀ q : Nat, fits (xcy c k) (.ref q) = true)
    (kk : AW G d mc ms y cc nL ret own kc kn (pc + 3) L st (wR z a k (some x)) v Q) : AW G d mc ms y cc nL ret own kc kn pc L (.ref x :: .ref a :: st) z v Q := by
  refine AW_putG (z' := wR z a k (some x)) (v' := v) hd ha hf hy hdec hfin (fun ρ => hn _) (fun ρ => hfit _) rfl (fun ρ => ?_) (fun ρ j hj => ?_) (fun b hb => ⟨?_, rfl, rfl⟩) kk
  · rw [xfv_r hf.2.2.1]
    simp [wR, va_up, va_rf, xtr]
  · unfold xfv wR
    simp [va_up, hj]
  · unfold wR va_up
    simp [hb]
theorem AW_putFI {idx a c k : Nat} {x : Int32} (hd : decode cc pc = .ok (.putfield idx, 3)) (ha : xin z a c (xcN c)) (hf : xfl own idx c k 0) (hy : y.name = "<init>") (hdec : (xct c k).1 = own) (hfin : (xct c k).2.2.2 = true) (hn : narrow (xcy c k) (.int x) = .int x) (hfit : fits (xcy c k) (.int x) = true)
    (kk : AW G d mc ms y cc nL ret own kc kn (pc + 3) L st z (wV v a k x) Q) : AW G d mc ms y cc nL ret own kc kn pc L (.int x :: .ref a :: st) z v Q := by
  refine AW_putG (z' := z) (v' := wV v a k x) hd ha hf hy hdec hfin (fun ρ => hn) (fun ρ => hfit) rfl (fun ρ => ?_) (fun ρ j hj => ?_) (fun b hb => ⟨rfl, wV_ne hb, rfl⟩) kk
  · rw [xfv_i hf.2.2.1, wV_self]
    simp [upd, xtr]
  · rw [wV_self]
    unfold xfv
    simp [upd, hj]
    rfl
theorem AW_objInit {idx a : Nat} (hd : decode cc pc = .ok (.invokespecial idx, 3)) (hlk : Cond.methodLink own idx Lib.objectInit ∈ xgt) (hin : Cond.instanceMethod Lib.objectInit ∈ xgt) (hco : Cond.code Lib.objectInit ⟨#[0xb1]⟩ 1 none ∈ xgt) (hdd : 0 < d) (hst : (st.map fun w => w.category).sum ≤ 8)
    (kk : AW G d mc ms y cc nL ret own kc kn (pc + 3) L st z v Q) : AW G d mc ms y cc nL ret own kc kn pc L (.ref a :: st) z v Q := by
  intro z0 v0 ρ0 sz p e s m args below meth c' C ρ H locs ls g hP hD hS hl
  have k0 := kk z0 v0 ρ0 sz p e s m args below meth c' C ρ H locs ls g hP hD hS hl
  obtain ⟨hx, hb, hr, hml, hown, hts, -⟩ := C
  have ht : ∀ {w : Cond}, w ∈ xgt → w.before args s = true := fun h => hts _ (List.mem_cons_of_mem _ h)
  exact W.objInit (R := xrm d mc ms) hx hb hown (ht hlk) (ht hin) (ht hco) rfl (hl.1.trans hml.symm) rfl hd hdd (by have h8 := xstk ρ [] st hst; show 2 * 0 + _ + 12 ≤ 64 * d; omega) k0
end ALLOC
